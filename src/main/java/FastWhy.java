import java.util.Arrays;

/**
 * How fast a program of a small language is on told machines, and why.
 *
 * Every row is made in a constructor and used again, so that no call makes an object.
 */
public final class FastWhy {
    public static final int NONE = -1, BAD = -2, NO = -3, FULL = -4;

    private static final int FAR_NONE = -1000000000;
    private static final int FAR_BAD = -2000000000;
    private static final long WITH_BAD = -2000000000000000000L;

    private static final int MOST_PROGRAMS = 6;
    private static final int MOST_LINES = 40;
    private static final int LINE_WIDE = 4;
    private static final int MOST_CHANGES = 10;
    private static final int MOST_BUILDS = 24;
    private static final int MOST_SETTINGS = 8;
    private static final int SETTING_WIDE = 4;
    private static final int FIRST_SET_REGISTER = 4;
    private static final int REGISTERS = 8;
    private static final int CELLS = 64;
    private static final int MACHINES = 4;
    private static final int MOST_ROOMS = 16;
    private static final int MOST_GUESSES = 16;
    private static final int MOST_STEPS = 2000;
    private static final int MOST_RUNS = 200;
    private static final int MOST_DIFFERENCES = 16;
    private static final int MOST_LOOKS = 8;
    private static final int MOST_SIGNS = 40;
    private static final int MOST_OPEN = 8;
    private static final int MOST_DIGITS = 6;
    private static final int MOST_COST = 12;
    private static final int IMAGES = 2;

    private static final int SET = 0, SUM = 1, LESS = 2, TIMES = 3, GET = 4, PUT = 5, LEAP = 6, END = 7;
    private static final int ACTS = 8;

    /** What a RUN keeps, in the order that of() tells it. */
    private static final int STEPS = 0, TOUCHES = 1, MISSES = 2, LEAPS = 3, WRONG = 4, TIME = 5, VOID = 6,
            BUILD = 7, MACHINE = 8, SETTING = 9, LOT = 10, HOUR = 11, WARM = 12, OUT = 13;
    private static final int RUN_WIDE = 14;

    private static final int OPEN = 0, SLOWER = 1, FASTER = 2, LIKE = 3, GIVEN_UP = 4;

    private final Store now = new Store();
    private final Store[] images = new Store[IMAGES];
    private final boolean[] imageThere = new boolean[IMAGES];
    private final Stepper stepper = new Stepper();
    private final Bag bag = new Bag();
    private final Ways ways = new Ways();
    private final Dating dating = new Dating();
    private final Undoing undoing = new Undoing();
    private final Fitting fitting = new Fitting();
    private final Reader reader = new Reader();

    public FastWhy() {
        for (int i = 0; i < IMAGES; i++) {
            images[i] = new Store();
        }
    }

    // ---- programs, builds, settings, machines

    public int program() {
        return now.source.addProgram();
    }

    public int line(int program, int act, int a, int b, int c) {
        Source source = now.source;
        if (isOut(program, source.programs) || !isLine(act, a, b, c)) {
            return BAD;
        }
        if (source.isBuilt(program)) {
            return NO;
        }
        return source.addLine(program, act, a, b, c);
    }

    public int change(int program, int line, int act, int a, int b, int c) {
        Source source = now.source;
        if (isOut(program, source.programs) || isOut(line, source.sizes[program]) || !isLine(act, a, b, c)) {
            return BAD;
        }
        return source.addChange(program, line, act, a, b, c);
    }

    public int build(int program, int changes) {
        Source source = now.source;
        if (isOut(program, source.programs) || isOut(changes, 1 << source.changes)) {
            return BAD;
        }
        if (!source.fits(program, changes)) {
            return NO;
        }
        return source.addBuild(program, changes);
    }

    public int setting(int r4, int r5, int r6, int r7) {
        if (isNotSmall(r4) || isNotSmall(r5) || isNotSmall(r6) || isNotSmall(r7)) {
            return BAD;
        }
        return now.source.addSetting(r4, r5, r6, r7);
    }

    public int price(int machine, int act, int v) {
        if (isOut(machine, MACHINES) || isOut(act, ACTS) || isBeyond(v, 0, 50)) {
            return BAD;
        }
        int[] prices = now.machines[machine].prices;
        int was = prices[act];
        prices[act] = v;
        return was;
    }

    public int cache(int machine, int lines, int wide, int miss) {
        if (isOut(machine, MACHINES) || isBeyond(lines, 1, MOST_ROOMS) || isBeyond(wide, 1, 8)
                || isBeyond(miss, 0, 200)) {
            return BAD;
        }
        now.machines[machine].tellCache(lines, wide, miss);
        return 1;
    }

    public int guess(int machine, int many, int wrong) {
        if (isOut(machine, MACHINES) || isBeyond(many, 1, MOST_GUESSES) || isBeyond(wrong, 0, 100)) {
            return BAD;
        }
        now.machines[machine].tellGuesses(many, wrong);
        return 1;
    }

    public int noise(int machine, int drift, int burst, int oneOf, boolean places) {
        if (isOut(machine, MACHINES) || isBeyond(drift, 0, 20) || isBeyond(burst, 0, 1000)
                || isBeyond(oneOf, 0, 100)) {
            return BAD;
        }
        now.machines[machine].tellNoise(drift, burst, oneOf, places);
        return 1;
    }

    // ---- runs

    public int run(int build, int machine, int setting, int lot, int hour, boolean warm) {
        if (isNoSpot(build, machine, setting) || isNoHour(hour)) {
            return BAD;
        }
        if (now.runs >= MOST_RUNS) {
            return FULL;
        }
        return goAndKeep(build, machine, setting, lot, hour, warm);
    }

    public int of(int run, int what) {
        if (isOut(run, now.runs) || isOut(what, RUN_WIDE)) {
            return FAR_BAD;
        }
        return now.told(run, what);
    }

    public int plain(int build, int machine, int setting, int what) {
        if (isNoSpot(build, machine, setting) || isOut(what, TIME + 1)) {
            return BAD;
        }
        stepper.goPlain(now, build, machine, setting);
        return stepper.counts[what];
    }

    public int figure(int build, int machine, int setting, int k, int what) {
        if (isNoSpot(build, machine, setting) || isBeyond(k, 0, MOST_RUNS) || isOut(what, 4)) {
            return BAD;
        }
        now.gather(bag, build, machine, setting, k);
        if (what == 0) {
            return bag.size;
        }
        if (bag.size == 0) {
            return NONE;
        }
        return what == 1 ? bag.least() : what == 2 ? bag.greatest() : bag.middle();
    }

    // ---- pairs

    public int pair(int old, int other, int machine, int setting, int lot, int hour, boolean newFirst) {
        if (isNoSpot(old, machine, setting) || isOut(other, now.source.builds) || isNoHour(hour)) {
            return BAD;
        }
        if (now.sitting.size >= MOST_DIFFERENCES) {
            return NO;
        }
        if (now.runs + 2 > MOST_RUNS) {
            return FULL;
        }
        int first = goAndKeep(newFirst ? other : old, machine, setting, lot, hour, false);
        int second = goAndKeep(newFirst ? old : other, machine, setting, lot, hour, true);
        if (now.told(first, VOID) == 0 && now.told(second, VOID) == 0) {
            int later = now.told(second, TIME) - now.told(first, TIME);
            now.sitting.add(newFirst ? -later : later);
        }
        return now.sitting.size;
    }

    public int difference(int i) {
        if (i < 0) {
            return FAR_BAD;
        }
        // The document tells no greatest number here, so one that is far beyond is not there either: NONE, not BAD.
        return isOut(i, now.sitting.size) ? FAR_NONE : now.sitting.differences[i];
    }

    public int stand() {
        int many = now.sitting.size;
        now.sitting.size = 0;
        return many;
    }

    public int odds(int what) {
        if (isOut(what, 2)) {
            return BAD;
        }
        return ways.dealt(now.sitting.differences, now.sitting.size, what == 1);
    }

    public int look(int pairs) {
        Sitting sitting = now.sitting;
        if (isBeyond(pairs, 1, MOST_DIFFERENCES) || pairs <= sitting.lastLook()) {
            return BAD;
        }
        return sitting.addLook(pairs);
    }

    public int sure(int o, int span) {
        if (isBeyond(o, 2, 1000) || isBeyond(span, 0, 10000)) {
            return BAD;
        }
        now.sitting.o = o;
        now.sitting.span = span;
        now.sitting.looks = 0;
        return 1;
    }

    public int answer() {
        return now.sitting.judge(ways, bag);
    }

    // ---- why

    public int step(int from, int to, int machine, int setting, int slack, int what) {
        if (isNoSpot(from, machine, setting) || isOut(to, now.source.builds) || from > to
                || isBeyond(slack, 0, 100000) || isOut(what, 3)) {
            return BAD;
        }
        dating.gather(now, from, to, machine, setting);
        if (!dating.find()) {
            return NONE;
        }
        return what == 0 ? dating.build : what == 1 ? dating.cost : dating.couldBe(slack);
    }

    public int back(int other, int old, int machine, int setting, int span, int what) {
        if (isNoSpot(other, machine, setting) || isOut(old, now.source.builds) || isBeyond(span, 0, 100000)
                || isOut(what, 3)) {
            return BAD;
        }
        if (now.source.buildProgram[other] != now.source.buildProgram[old]) {
            return NO;
        }
        stepper.goPlain(now, old, machine, setting);
        if (stepper.isVoid) {
            return NO;
        }
        undoing.ask(now, stepper, other, old, machine, setting, stepper.counts[TIME] + span);
        if (what == 2) {
            return undoing.alone();
        }
        undoing.findLeast();
        return what == 0 ? undoing.size : undoing.fewest();
    }

    public long with(int machine, int counter) {
        if (isOut(machine, MACHINES) || isOut(counter, TIME)) {
            return WITH_BAD;
        }
        long many = 0;
        long counts = 0;
        long times = 0;
        long products = 0;
        for (int i = 0; i < now.runs; i++) {
            if (now.isTimedOn(i, machine)) {
                long count = now.told(i, counter);
                long time = now.told(i, TIME);
                many++;
                counts += count;
                times += time;
                products += count * time;
            }
        }
        return many * products - counts * times;
    }

    public int keep(int run, boolean out) {
        if (isOut(run, now.runs)) {
            return BAD;
        }
        int wanted = out ? 1 : 0;
        if (now.told(run, OUT) == wanted) {
            return NO;
        }
        now.tell(run, OUT, wanted);
        return 1;
    }

    public long fit(int machine, int c0, int c1, int c2, int what) {
        if (isOut(machine, MACHINES) || areNoCounts(c0, c1, c2) || isOut(what, 5)) {
            return BAD;
        }
        fitting.find(now, machine, c0, c1, c2);
        return what < 3 ? fitting.costs[what] : what == 3 ? fitting.sum : fitting.farthest();
    }

    public long foretell(int build, int machine, int setting, int c0, int c1, int c2, int what) {
        if (isNoSpot(build, machine, setting) || areNoCounts(c0, c1, c2) || isOut(what, 3)) {
            return FAR_BAD;
        }
        stepper.goPlain(now, build, machine, setting);
        if (stepper.isVoid) {
            return FAR_NONE;
        }
        fitting.find(now, machine, c0, c1, c2);
        long foretold = fitting.made(stepper.counts[c0], stepper.counts[c1], stepper.counts[c2]);
        if (what == 0) {
            return foretold;
        }
        fitting.gatherMisses(now, machine, bag);
        if (bag.size == 0) {
            return FAR_NONE;
        }
        return foretold + (what == 1 ? bag.least() : bag.greatest());
    }

    public int seek(int build, int machine, int price, int what) {
        if (isOut(build, now.source.builds) || isOut(machine, MACHINES) || isBeyond(price, 0, 1000000)
                || isOut(what, 2)) {
            return BAD;
        }
        int best = NONE;
        int bestTime = 0;
        int spent = 0;
        int tried = 0;
        for (int i = 0; i < now.source.settings; i++) {
            stepper.goPlain(now, build, machine, i);
            spent += stepper.isVoid ? MOST_STEPS : stepper.counts[TIME];
            if (spent > price) {
                break;
            }
            tried++;
            if (!stepper.isVoid && (best == NONE || stepper.counts[TIME] < bestTime)) {
                best = i;
                bestTime = stepper.counts[TIME];
            }
        }
        return what == 0 ? best : tried;
    }

    public int write(int character) {
        if (isBeyond(character, 0, 127)) {
            return BAD;
        }
        if (now.signs >= MOST_SIGNS) {
            return FULL;
        }
        now.text[now.signs] = character;
        now.signs++;
        return now.signs;
    }

    public int erase() {
        int many = now.signs;
        now.signs = 0;
        return many;
    }

    public int fault() {
        reader.work(now.text, now.signs);
        return reader.fault;
    }

    public int rung(int machine, int setting, int k) {
        if (isOut(machine, MACHINES) || isOut(setting, now.source.settings) || isBeyond(k, 0, MOST_RUNS)) {
            return BAD;
        }
        reader.work(now.text, now.signs);
        if (reader.fault != NONE) {
            return NO;
        }
        int rings = 0;
        int ahead = 0;
        for (int i = 0; i < now.source.builds; i++) {
            now.gather(bag, i, machine, setting, k);
            reader.know(bag, ahead, i);
            if (bag.size > 0 && reader.work(now.text, now.signs) != 0) {
                rings |= 1 << i;
            }
            ahead = bag.middle();
        }
        return rings;
    }

    // ---- records

    public int forge(int run, int v) {
        if (isOut(run, now.runs) || now.told(run, VOID) == 1 || isBeyond(v, 0, 10000000)) {
            return FAR_BAD;
        }
        int was = now.told(run, TIME);
        now.tell(run, TIME, v);
        return was;
    }

    public int check() {
        for (int i = 0; i < now.runs; i++) {
            if (now.told(i, WARM) == 0) {
                stepper.goAgain(now, i);
                if (!now.isAsCounted(i, stepper.counts)) {
                    return i;
                }
            }
        }
        return NONE;
    }

    public int image(int i) {
        if (isOut(i, IMAGES)) {
            return BAD;
        }
        images[i].takeFrom(now);
        imageThere[i] = true;
        return 1;
    }

    public int from(int i) {
        if (isOut(i, IMAGES)) {
            return BAD;
        }
        if (!imageThere[i]) {
            return NO;
        }
        now.takeFrom(images[i]);
        return 1;
    }

    public int count(int what) {
        switch (what) {
            case 0: return now.source.programs;
            case 1: return now.source.changes;
            case 2: return now.source.builds;
            case 3: return now.source.settings;
            case 4: return now.runs;
            case 5: return now.voidRuns();
            case 6: return now.sitting.size;
            case 7: return now.sitting.looks;
            case 8: return now.signs;
            default: return BAD;
        }
    }

    public long digest() {
        long h = 349;
        for (int i = 0; i <= 8; i++) {
            h = 31 * h + count(i);
        }
        h = mixed(h, now.cells, now.runs * RUN_WIDE);
        h = mixed(h, now.sitting.differences, now.sitting.size);
        h = mixed(h, now.sitting.lookAt, now.sitting.looks);
        h = 31 * h + now.sitting.o;
        h = 31 * h + now.sitting.span;
        h = mixed(h, now.text, now.signs);
        for (int i = 0; i < now.source.builds; i++) {
            h = 31 * h + now.source.buildProgram[i];
            h = 31 * h + now.source.buildChanges[i];
        }
        for (int i = 0; i < MACHINES; i++) {
            h = mixed(h, now.machines[i].rooms, now.machines[i].lines);
            h = mixed(h, now.machines[i].guesses, now.machines[i].guessMany);
        }
        return h;
    }

    // ---- what the calls share

    private int goAndKeep(int build, int machine, int setting, int lot, int hour, boolean warm) {
        stepper.goKept(now, build, machine, setting, lot, hour, warm);
        int run = now.addRun(stepper.counts, stepper.isVoid);
        now.tell(run, BUILD, build);
        now.tell(run, MACHINE, machine);
        now.tell(run, SETTING, setting);
        now.tell(run, LOT, lot);
        now.tell(run, HOUR, hour);
        now.tell(run, WARM, warm ? 1 : 0);
        now.tell(run, OUT, 0);
        return run;
    }

    private boolean isNoSpot(int build, int machine, int setting) {
        return isOut(build, now.source.builds) || isOut(machine, MACHINES) || isOut(setting, now.source.settings);
    }

    private static boolean isNoHour(int hour) {
        return isBeyond(hour, 0, 23);
    }

    private static boolean areNoCounts(int c0, int c1, int c2) {
        return isOut(c0, TIME) || isOut(c1, TIME) || isOut(c2, TIME) || c0 == c1 || c0 == c2 || c1 == c2;
    }

    private static boolean isOut(int number, int many) {
        return number < 0 || number >= many;
    }

    private static boolean isBeyond(int number, int least, int greatest) {
        return number < least || number > greatest;
    }

    private static boolean isNotSmall(int number) {
        return isBeyond(number, -1000, 1000);
    }

    private static boolean isLine(int act, int a, int b, int c) {
        switch (act) {
            case SET: return !isOut(a, REGISTERS) && !isNotSmall(b);
            case SUM:
            case LESS:
            case TIMES: return !isOut(a, REGISTERS) && !isOut(b, REGISTERS) && !isOut(c, REGISTERS);
            case GET:
            case PUT: return !isOut(a, REGISTERS) && !isOut(b, REGISTERS);
            case LEAP: return !isOut(a, REGISTERS) && !isOut(b, MOST_LINES);
            case END: return true;
            default: return false;
        }
    }

    /** What is not looked at is written as 0, so that no number out of range is ever kept in a LINE. */
    private static void writeLine(int[] into, int at, int act, int a, int b, int c) {
        if (at < 0 || at + LINE_WIDE > into.length) {
            return;
        }
        into[at] = act;
        into[at + 1] = act == END ? 0 : a;
        into[at + 2] = act == END ? 0 : b;
        into[at + 3] = act == SUM || act == LESS || act == TIMES ? c : 0;
    }

    /** 0 .. by less 1, also of a number below 0. */
    private static int leftOver(int number, int by) {
        if (by < 1) {
            return 0;
        }
        int left = number % by;
        return left < 0 ? left + by : left;
    }

    private static int cutBy(int number, int by) {
        return by < 1 ? 0 : number / by;
    }

    private static long mixed(long h, int[] numbers, int many) {
        for (int i = 0; i < many && i < numbers.length; i++) {
            h = 31 * h + numbers[i];
        }
        return h;
    }

    /** All that an IMAGE keeps. */
    private static final class Store {
        final Source source = new Source();
        final Machine[] machines = new Machine[MACHINES];
        final Sitting sitting = new Sitting();
        final int[] cells = new int[MOST_RUNS * RUN_WIDE];
        int runs;
        final int[] text = new int[MOST_SIGNS];
        int signs;

        Store() {
            for (int i = 0; i < MACHINES; i++) {
                machines[i] = new Machine();
            }
        }

        void takeFrom(Store other) {
            source.takeFrom(other.source);
            for (int i = 0; i < MACHINES; i++) {
                machines[i].takeFrom(other.machines[i]);
            }
            sitting.takeFrom(other.sitting);
            System.arraycopy(other.cells, 0, cells, 0, cells.length);
            runs = other.runs;
            System.arraycopy(other.text, 0, text, 0, text.length);
            signs = other.signs;
        }

        int told(int run, int what) {
            return cells[run * RUN_WIDE + what];
        }

        void tell(int run, int what, int number) {
            cells[run * RUN_WIDE + what] = number;
        }

        int addRun(int[] counts, boolean isVoid) {
            for (int i = 0; i <= TIME; i++) {
                tell(runs, i, counts[i]);
            }
            tell(runs, VOID, isVoid ? 1 : 0);
            runs++;
            return runs - 1;
        }

        boolean isTimedOn(int run, int machine) {
            return told(run, MACHINE) == machine && told(run, VOID) == 0;
        }

        boolean isAsCounted(int run, int[] counts) {
            for (int i = 0; i <= TIME; i++) {
                if (told(run, i) != counts[i]) {
                    return false;
                }
            }
            return true;
        }

        int voidRuns() {
            int many = 0;
            for (int i = 0; i < runs; i++) {
                many += told(i, VOID);
            }
            return many;
        }

        void gather(Bag bag, int build, int machine, int setting, int below) {
            bag.clear();
            for (int i = 0; i < runs && i < below; i++) {
                if (isTimedOn(i, machine) && told(i, BUILD) == build && told(i, SETTING) == setting) {
                    bag.add(told(i, TIME));
                }
            }
        }
    }

    /** PROGRAMS, CHANGES, BUILDS and SETTINGS. */
    private static final class Source {
        int programs;
        final int[] sizes = new int[MOST_PROGRAMS];
        final int[] lines = new int[MOST_PROGRAMS * MOST_LINES * LINE_WIDE];
        int changes;
        final int[] changeProgram = new int[MOST_CHANGES];
        final int[] changeLine = new int[MOST_CHANGES];
        final int[] changed = new int[MOST_CHANGES * LINE_WIDE];
        int builds;
        final int[] buildProgram = new int[MOST_BUILDS];
        final int[] buildChanges = new int[MOST_BUILDS];
        int settings;
        final int[] values = new int[MOST_SETTINGS * SETTING_WIDE];

        void takeFrom(Source other) {
            programs = other.programs;
            System.arraycopy(other.sizes, 0, sizes, 0, sizes.length);
            System.arraycopy(other.lines, 0, lines, 0, lines.length);
            changes = other.changes;
            System.arraycopy(other.changeProgram, 0, changeProgram, 0, changeProgram.length);
            System.arraycopy(other.changeLine, 0, changeLine, 0, changeLine.length);
            System.arraycopy(other.changed, 0, changed, 0, changed.length);
            builds = other.builds;
            System.arraycopy(other.buildProgram, 0, buildProgram, 0, buildProgram.length);
            System.arraycopy(other.buildChanges, 0, buildChanges, 0, buildChanges.length);
            settings = other.settings;
            System.arraycopy(other.values, 0, values, 0, values.length);
        }

        int addProgram() {
            if (programs >= MOST_PROGRAMS) {
                return FULL;
            }
            sizes[programs] = 0;
            programs++;
            return programs - 1;
        }

        int addLine(int program, int act, int a, int b, int c) {
            int number = sizes[program];
            if (number >= MOST_LINES) {
                return FULL;
            }
            writeLine(lines, (program * MOST_LINES + number) * LINE_WIDE, act, a, b, c);
            sizes[program] = number + 1;
            return number;
        }

        int addChange(int program, int line, int act, int a, int b, int c) {
            if (changes >= MOST_CHANGES) {
                return FULL;
            }
            writeLine(changed, changes * LINE_WIDE, act, a, b, c);
            changeProgram[changes] = program;
            changeLine[changes] = line;
            changes++;
            return changes - 1;
        }

        int addBuild(int program, int bits) {
            if (builds >= MOST_BUILDS) {
                return FULL;
            }
            buildProgram[builds] = program;
            buildChanges[builds] = bits;
            builds++;
            return builds - 1;
        }

        int addSetting(int r4, int r5, int r6, int r7) {
            if (settings >= MOST_SETTINGS) {
                return FULL;
            }
            int at = settings * SETTING_WIDE;
            values[at] = r4;
            values[at + 1] = r5;
            values[at + 2] = r6;
            values[at + 3] = r7;
            settings++;
            return settings - 1;
        }

        boolean isBuilt(int program) {
            for (int i = 0; i < builds; i++) {
                if (buildProgram[i] == program) {
                    return true;
                }
            }
            return false;
        }

        boolean fits(int program, int bits) {
            long taken = 0;
            for (int i = 0; i < changes; i++) {
                if ((bits >> i & 1) == 1) {
                    long spot = 1L << changeLine[i];
                    if (changeProgram[i] != program || (taken & spot) != 0) {
                        return false;
                    }
                    taken |= spot;
                }
            }
            return true;
        }
    }

    /** What a MACHINE was told, and what the last RUN on it left. */
    private static final class Machine {
        final int[] prices = new int[ACTS];
        int lines = 4;
        int wide = 4;
        int miss = 10;
        final int[] rooms = new int[MOST_ROOMS];
        int guessMany = 4;
        int wrong = 5;
        final int[] guesses = new int[MOST_GUESSES];
        int drift;
        int burst;
        int oneOf;
        boolean places;

        Machine() {
            Arrays.fill(prices, 1);
            Arrays.fill(rooms, NONE);
        }

        void takeFrom(Machine other) {
            System.arraycopy(other.prices, 0, prices, 0, prices.length);
            lines = other.lines;
            wide = other.wide;
            miss = other.miss;
            System.arraycopy(other.rooms, 0, rooms, 0, rooms.length);
            guessMany = other.guessMany;
            wrong = other.wrong;
            System.arraycopy(other.guesses, 0, guesses, 0, guesses.length);
            drift = other.drift;
            burst = other.burst;
            oneOf = other.oneOf;
            places = other.places;
        }

        void tellCache(int newLines, int newWide, int newMiss) {
            if (newLines != lines || newWide != wide) {
                Arrays.fill(rooms, NONE);
            }
            lines = newLines;
            wide = newWide;
            miss = newMiss;
        }

        void tellGuesses(int many, int newWrong) {
            if (many != guessMany) {
                Arrays.fill(guesses, 0);
            }
            guessMany = many;
            wrong = newWrong;
        }

        void tellNoise(int newDrift, int newBurst, int newOneOf, boolean newPlaces) {
            drift = newDrift;
            burst = newBurst;
            oneOf = newOneOf;
            places = newPlaces;
        }

        int placeBy(int lot) {
            return places ? leftOver(highBits(drawn(lot)), CELLS) : 0;
        }

        int noiseBy(int lot, int hour) {
            boolean bursts = oneOf > 0 && leftOver(highBits(drawn(drawn(lot))), oneOf) == 0;
            return drift * hour + (bursts ? burst : 0);
        }

        private static int drawn(int lot) {
            return lot * 1103515245 + 12345;
        }

        private static int highBits(int number) {
            return number >>> 16;
        }
    }

    /** THE SITTING and what was told ahead of it. */
    private static final class Sitting {
        final int[] differences = new int[MOST_DIFFERENCES];
        int size;
        final int[] lookAt = new int[MOST_LOOKS];
        int looks;
        int o = 20;
        int span;

        void takeFrom(Sitting other) {
            System.arraycopy(other.differences, 0, differences, 0, differences.length);
            size = other.size;
            System.arraycopy(other.lookAt, 0, lookAt, 0, lookAt.length);
            looks = other.looks;
            o = other.o;
            span = other.span;
        }

        void add(int difference) {
            if (size < MOST_DIFFERENCES) {
                differences[size] = difference;
                size++;
            }
        }

        int lastLook() {
            return looks == 0 ? 0 : lookAt[looks - 1];
        }

        int addLook(int pairs) {
            if (looks >= MOST_LOOKS) {
                return FULL;
            }
            lookAt[looks] = pairs;
            looks++;
            return looks;
        }

        int judge(Ways ways, Bag bag) {
            for (int i = 0; i < looks && lookAt[i] <= size; i++) {
                if (isRare(ways.dealt(differences, lookAt[i], false), lookAt[i])) {
                    return SLOWER;
                }
                if (isRare(ways.dealt(differences, lookAt[i], true), lookAt[i])) {
                    return FASTER;
                }
            }
            if (looks == 0 || size < lastLook()) {
                return OPEN;
            }
            bag.clear();
            for (int i = 0; i < lastLook(); i++) {
                bag.add(differences[i]);
            }
            return Math.abs(bag.middle()) <= span ? LIKE : GIVEN_UP;
        }

        private boolean isRare(int odds, int pairs) {
            return (long) odds * o * looks <= 1L << pairs;
        }
    }

    /** Goes through a BUILD's lines and counts. */
    private static final class Stepper {
        final int[] counts = new int[TIME + 1];
        boolean isVoid;
        private final int[] lines = new int[MOST_LINES * LINE_WIDE];
        private int size;
        private final int[] registers = new int[REGISTERS];
        private final int[] memory = new int[CELLS];
        /** PLAIN runs and those gone through again leave nothing: they have a CACHE and GUESSES of their own. */
        private final int[] ownRooms = new int[MOST_ROOMS];
        private final int[] ownGuesses = new int[MOST_GUESSES];
        private Machine on = new Machine();
        private int[] rooms = ownRooms;
        private int[] guesses = ownGuesses;
        private int place;

        void goKept(Store store, int build, int machine, int setting, int lot, int hour, boolean warm) {
            on = store.machines[machine];
            rooms = on.rooms;
            guesses = on.guesses;
            if (!warm) {
                empty();
            }
            place = on.placeBy(lot);
            begin(store.source, store.source.buildProgram[build], store.source.buildChanges[build], setting);
            go(on.noiseBy(lot, hour));
        }

        void goPlain(Store store, int build, int machine, int setting) {
            goPlainWith(store, build, store.source.buildChanges[build], machine, setting);
        }

        void goPlainWith(Store store, int build, int changes, int machine, int setting) {
            on = store.machines[machine];
            useOwn();
            place = 0;
            begin(store.source, store.source.buildProgram[build], changes, setting);
            go(0);
        }

        void goAgain(Store store, int run) {
            int build = store.told(run, BUILD);
            int lot = store.told(run, LOT);
            on = store.machines[store.told(run, MACHINE)];
            useOwn();
            place = on.placeBy(lot);
            begin(store.source, store.source.buildProgram[build], store.source.buildChanges[build],
                    store.told(run, SETTING));
            go(on.noiseBy(lot, store.told(run, HOUR)));
        }

        private void useOwn() {
            rooms = ownRooms;
            guesses = ownGuesses;
            empty();
        }

        private void empty() {
            Arrays.fill(rooms, NONE);
            Arrays.fill(guesses, 0);
        }

        private void begin(Source source, int program, int changes, int setting) {
            size = source.sizes[program];
            System.arraycopy(source.lines, program * MOST_LINES * LINE_WIDE, lines, 0, size * LINE_WIDE);
            for (int i = 0; i < source.changes; i++) {
                if ((changes >> i & 1) == 1) {
                    System.arraycopy(source.changed, i * LINE_WIDE, lines, source.changeLine[i] * LINE_WIDE,
                            LINE_WIDE);
                }
            }
            Arrays.fill(memory, 0);
            Arrays.fill(registers, 0);
            System.arraycopy(source.values, setting * SETTING_WIDE, registers, FIRST_SET_REGISTER, SETTING_WIDE);
        }

        private void go(int noise) {
            Arrays.fill(counts, 0);
            int steps = 0;
            int acts = 0;
            int at = 0;
            while (steps < MOST_STEPS && at >= 0 && at < size) {
                int act = lines[at * LINE_WIDE];
                steps++;
                acts += on.prices[act];
                at = act == END ? size : act == LEAP ? leap(at) : work(act, at);
            }
            counts[STEPS] = steps;
            isVoid = at < size;
            counts[TIME] = isVoid ? NONE
                    : acts + counts[MISSES] * on.miss + counts[WRONG] * on.wrong + noise;
        }

        private int work(int act, int at) {
            int a = lines[at * LINE_WIDE + 1];
            int b = lines[at * LINE_WIDE + 2];
            int c = lines[at * LINE_WIDE + 3];
            switch (act) {
                case SET: registers[a] = b; break;
                case SUM: registers[a] = registers[b] + registers[c]; break;
                case LESS: registers[a] = registers[b] - registers[c]; break;
                case TIMES: registers[a] = registers[b] * registers[c]; break;
                case GET: registers[a] = memory[touched(registers[b])]; break;
                default: memory[touched(registers[b])] = registers[a]; break;
            }
            return at + 1;
        }

        private int touched(int number) {
            int cell = leftOver(number, CELLS);
            int line = cutBy(cell + place, on.wide);
            int room = leftOver(line, on.lines);
            counts[TOUCHES]++;
            if (rooms[room] != line) {
                counts[MISSES]++;
                rooms[room] = line;
            }
            return cell;
        }

        private int leap(int at) {
            int taken = registers[lines[at * LINE_WIDE + 1]] > 0 ? 1 : 0;
            int mine = leftOver(at, on.guessMany);
            counts[LEAPS]++;
            if (guesses[mine] != taken) {
                counts[WRONG]++;
                guesses[mine] = taken;
            }
            return taken == 1 ? lines[at * LINE_WIDE + 2] : at + 1;
        }
    }

    /** Numbers in order. */
    private static final class Bag {
        private final int[] numbers = new int[MOST_RUNS];
        int size;

        void clear() {
            size = 0;
        }

        void add(int number) {
            if (size >= numbers.length) {
                return;
            }
            int at = size;
            while (at > 0 && numbers[at - 1] > number) {
                numbers[at] = numbers[at - 1];
                at--;
            }
            numbers[at] = number;
            size++;
        }

        int least() {
            return size == 0 ? 0 : numbers[0];
        }

        int greatest() {
            return size == 0 ? 0 : numbers[size - 1];
        }

        int middle() {
            if (size == 0) {
                return 0;
            }
            return size % 2 == 1 ? numbers[size / 2] : (numbers[size / 2 - 1] + numbers[size / 2]) / 2;
        }
    }

    /**
     * Counts ways to deal signs. Turning a set of DIFFERENCES makes the sum no less just if the set's own sum is
     * 0 or less; so sets are counted, both halves' sums being kept in order so that not all 2 to the n are gone
     * through.
     */
    private static final class Ways {
        private static final int MOST_SUMS = 256;
        private final int[] left = new int[MOST_SUMS];
        private final int[] right = new int[MOST_SUMS];
        private final int[] merged = new int[MOST_SUMS];

        int dealt(int[] differences, int many, boolean faster) {
            int half = many / 2;
            int sign = faster ? -1 : 1;
            int lefts = sumsOfSets(differences, 0, half, sign, left);
            int rights = sumsOfSets(differences, half, many, sign, right);
            int all = 0;
            int fitting = rights;
            for (int i = 0; i < lefts; i++) {
                while (fitting > 0 && left[i] + right[fitting - 1] > 0) {
                    fitting--;
                }
                all += fitting;
            }
            return all;
        }

        private int sumsOfSets(int[] differences, int from, int to, int sign, int[] sums) {
            sums[0] = 0;
            int size = 1;
            for (int i = from; i < to && size * 2 <= MOST_SUMS; i++) {
                addToEach(sums, size, differences[i] * sign);
                size *= 2;
            }
            return size;
        }

        private void addToEach(int[] sums, int size, int number) {
            int without = 0;
            int having = 0;
            for (int i = 0; i < size * 2; i++) {
                if (having >= size || without < size && sums[without] <= sums[having] + number) {
                    merged[i] = sums[without];
                    without++;
                } else {
                    merged[i] = sums[having] + number;
                    having++;
                }
            }
            System.arraycopy(merged, 0, sums, 0, size * 2);
        }
    }

    /** A STEP over BUILDS. */
    private static final class Dating {
        int build;
        int cost;
        private final int[] builds = new int[MOST_BUILDS];
        private final int[] middles = new int[MOST_BUILDS];
        private final int[] costs = new int[MOST_BUILDS];
        private int size;
        private final Bag bag = new Bag();

        void gather(Store store, int from, int to, int machine, int setting) {
            size = 0;
            for (int i = from; i <= to && size < MOST_BUILDS; i++) {
                store.gather(bag, i, machine, setting, store.runs);
                if (bag.size > 0) {
                    builds[size] = i;
                    middles[size] = bag.middle();
                    size++;
                }
            }
        }

        boolean find() {
            for (int i = 1; i < size; i++) {
                costs[i] = farness(0, i) + farness(i, size);
                if (i == 1 || costs[i] < cost) {
                    cost = costs[i];
                    build = builds[i];
                }
            }
            return size >= 2;
        }

        int couldBe(int slack) {
            int bits = 0;
            for (int i = 1; i < size; i++) {
                if (costs[i] <= cost + slack) {
                    bits |= 1 << builds[i];
                }
            }
            return bits;
        }

        private int farness(int from, int to) {
            bag.clear();
            for (int i = from; i < to; i++) {
                bag.add(middles[i]);
            }
            int sum = 0;
            for (int i = from; i < to; i++) {
                sum += Math.abs(middles[i] - bag.middle());
            }
            return sum;
        }
    }

    /** BACK: the sets of CHANGES whose undoing brings the time back. */
    private static final class Undoing {
        /** No more sets of ten can stand side by side, none being part of another. */
        private static final int MOST_LEAST = 252;
        int size;
        private final int[] least = new int[MOST_LEAST];
        private Store store;
        private Stepper stepper;
        private int build;
        private int machine;
        private int setting;
        private int limit;
        private int open;

        void ask(Store inStore, Stepper by, int other, int old, int onMachine, int bySetting, int upTo) {
            store = inStore;
            stepper = by;
            build = other;
            machine = onMachine;
            setting = bySetting;
            limit = upTo;
            open = inStore.source.buildChanges[other] & ~inStore.source.buildChanges[old];
        }

        /** A set comes behind all its parts, so those found so far tell whether it can be a LEAST one. */
        void findLeast() {
            size = 0;
            int set = 0;
            int many = 1 << Integer.bitCount(open);
            for (int i = 0; i < many && size < MOST_LEAST; i++) {
                if (!holdsFound(set) && brings(set)) {
                    least[size] = set;
                    size++;
                }
                set = set - open & open;
            }
        }

        int fewest() {
            int told = NONE;
            for (int i = 0; i < size; i++) {
                if (told == NONE || Integer.bitCount(least[i]) < Integer.bitCount(told)) {
                    told = least[i];
                }
            }
            return told;
        }

        int alone() {
            int bits = 0;
            for (int i = 0; i < MOST_CHANGES; i++) {
                if ((open >> i & 1) == 1 && brings(1 << i)) {
                    bits |= 1 << i;
                }
            }
            return bits;
        }

        private boolean holdsFound(int set) {
            for (int i = 0; i < size; i++) {
                if ((least[i] & ~set) == 0) {
                    return true;
                }
            }
            return false;
        }

        private boolean brings(int set) {
            if (store == null || stepper == null) {
                return false;
            }
            stepper.goPlainWith(store, build, store.source.buildChanges[build] & ~set, machine, setting);
            return !stepper.isVoid && stepper.counts[TIME] <= limit;
        }
    }

    /** COSTS of a MACHINE fitted to three COUNTS. */
    private static final class Fitting {
        /** 200 RUNS, each some 10000000 off at most, come nowhere near. */
        private static final long BEYOND_ANY_SUM = 1L << 40;
        final int[] costs = new int[3];
        long sum;
        private final int[] asked = new int[3];
        private final int[] runs = new int[MOST_RUNS];
        private final int[] firsts = new int[MOST_RUNS];
        private final int[] seconds = new int[MOST_RUNS];
        private final int[] thirds = new int[MOST_RUNS];
        private final int[] times = new int[MOST_RUNS];
        private int size;

        void find(Store store, int machine, int c0, int c1, int c2) {
            asked[0] = c0;
            asked[1] = c1;
            asked[2] = c2;
            gatherRuns(store, machine);
            take(0, 0, 0, BEYOND_ANY_SUM);
            for (int x = 0; x <= MOST_COST; x++) {
                for (int y = 0; y <= MOST_COST; y++) {
                    for (int z = 0; z <= MOST_COST; z++) {
                        long far = farness(x, y, z, sum);
                        if (far < sum) {
                            take(x, y, z, far);
                        }
                    }
                }
            }
        }

        int made(int first, int second, int third) {
            return costs[0] * first + costs[1] * second + costs[2] * third;
        }

        int farthest() {
            int run = NONE;
            int most = NONE;
            for (int i = 0; i < size; i++) {
                int off = Math.abs(times[i] - made(firsts[i], seconds[i], thirds[i]));
                if (off > most) {
                    most = off;
                    run = runs[i];
                }
            }
            return run;
        }

        void gatherMisses(Store store, int machine, Bag bag) {
            bag.clear();
            for (int i = 0; i < store.runs; i++) {
                if (store.isTimedOn(i, machine) && store.told(i, OUT) == 1) {
                    bag.add(store.told(i, TIME) - made(store.told(i, asked[0]), store.told(i, asked[1]),
                            store.told(i, asked[2])));
                }
            }
        }

        private void gatherRuns(Store store, int machine) {
            size = 0;
            for (int i = 0; i < store.runs && size < MOST_RUNS; i++) {
                if (store.isTimedOn(i, machine) && store.told(i, OUT) == 0) {
                    runs[size] = i;
                    firsts[size] = store.told(i, asked[0]);
                    seconds[size] = store.told(i, asked[1]);
                    thirds[size] = store.told(i, asked[2]);
                    times[size] = store.told(i, TIME);
                    size++;
                }
            }
        }

        private void take(int x, int y, int z, long far) {
            costs[0] = x;
            costs[1] = y;
            costs[2] = z;
            sum = far;
        }

        /** Ends early where it is no less than enough: such a sum is not taken, whatever it comes to. */
        private long farness(int x, int y, int z, long enough) {
            long far = 0;
            for (int i = 0; i < size && far < enough; i++) {
                far += Math.abs(times[i] - x * firsts[i] - y * seconds[i] - z * thirds[i]);
            }
            return far;
        }
    }

    /** Reads RULES from left to right and works them as it goes. */
    private static final class Reader {
        private static final int TEXT_END = -1;
        private static final String NAMES = "nmlgpb";
        int fault = NONE;
        private final int[] text = new int[MOST_SIGNS];
        private int size;
        private int place;
        private final long[] known = new long[6];

        void know(Bag bag, int middleAhead, int build) {
            known[0] = bag.size;
            known[1] = bag.middle();
            known[2] = bag.least();
            known[3] = bag.greatest();
            known[4] = middleAhead;
            known[5] = build;
        }

        long work(int[] signs, int many) {
            size = Math.min(Math.max(many, 0), Math.min(signs.length, MOST_SIGNS));
            System.arraycopy(signs, 0, text, 0, size);
            place = 0;
            fault = NONE;
            long worked = value(0);
            if (ahead() != TEXT_END) {
                fail(1);
            }
            return worked;
        }

        private long value(int open) {
            long all = both(open);
            for (int i = 0; i < MOST_SIGNS && takes('|'); i++) {
                long next = both(open);
                all = truth(all != 0 || next != 0);
            }
            return all;
        }

        private long both(int open) {
            long all = held(open);
            for (int i = 0; i < MOST_SIGNS && takes('&'); i++) {
                long next = held(open);
                all = truth(all != 0 && next != 0);
            }
            return all;
        }

        private long held(int open) {
            long left = sum(open);
            if (takes('<')) {
                return truth(left < sum(open));
            }
            if (takes('>')) {
                return truth(left > sum(open));
            }
            if (takes('=')) {
                return truth(left == sum(open));
            }
            return left;
        }

        private long sum(int open) {
            long all = term(open);
            for (int i = 0; i < MOST_SIGNS; i++) {
                if (takes('+')) {
                    all += term(open);
                } else if (takes('-')) {
                    all -= term(open);
                } else {
                    break;
                }
            }
            return all;
        }

        private long term(int open) {
            long all = unit(open);
            for (int i = 0; i < MOST_SIGNS; i++) {
                if (takes('*')) {
                    all *= unit(open);
                } else if (takes('/')) {
                    long by = unit(open);
                    all = by == 0 ? 0 : all / by;
                } else {
                    break;
                }
            }
            return all;
        }

        /** The signs ahead are kept as bits and worked from the last one on: this spares a level for each. */
        private long unit(int open) {
            long marks = 0;
            int many = 0;
            for (int i = 0; i < MOST_SIGNS; i++) {
                if (takes('!')) {
                    marks = marks * 2 + 1;
                } else if (takes('-')) {
                    marks = marks * 2;
                } else {
                    break;
                }
                many++;
            }
            long all = bare(open);
            for (int i = 0; i < many; i++) {
                all = (marks >> i & 1) == 1 ? truth(all == 0) : -all;
            }
            return all;
        }

        private long bare(int open) {
            int sign = ahead();
            if (isDigit(sign)) {
                return number();
            }
            for (int i = 0; i < known.length && i < NAMES.length(); i++) {
                if (NAMES.charAt(i) == sign) {
                    place++;
                    return known[i];
                }
            }
            if (sign != '(') {
                return fail(1);
            }
            return open < MOST_OPEN ? within(open + 1) : fail(3);
        }

        private long within(int open) {
            place++;
            long all = value(open);
            if (!takes(')')) {
                fail(1);
            }
            return all;
        }

        private long number() {
            long all = 0;
            for (int i = 0; i < MOST_DIGITS; i++) {
                if (place + i >= size || !isDigit(text[place + i])) {
                    place += i;
                    return all;
                }
                all = all * 10 + text[place + i] - '0';
            }
            if (place + MOST_DIGITS < size && isDigit(text[place + MOST_DIGITS])) {
                return fail(2);
            }
            place += MOST_DIGITS;
            return all;
        }

        /** Nothing is taken behind a FAULT, so that the first one stands. */
        private boolean takes(int sign) {
            if (fault != NONE || ahead() != sign) {
                return false;
            }
            place++;
            return true;
        }

        private int ahead() {
            while (place < size && text[place] == ' ') {
                place++;
            }
            return place < size ? text[place] : TEXT_END;
        }

        private long fail(int kind) {
            if (fault == NONE) {
                fault = 10 * place + kind;
            }
            return 0;
        }

        private static boolean isDigit(int sign) {
            return sign >= '0' && sign <= '9';
        }

        private static long truth(boolean holds) {
            return holds ? 1 : 0;
        }
    }
}
