import java.util.List;

/**
 * Each sentence of the document that names an edge which is not a refusal, on both sides of it: what is empty, what
 * wraps around, what is just as much and what is one more. RefusalsTest has the calls that are refused.
 */
public final class EdgesTest {
    private static final int NONE = -1, BAD = -2, NO = -3, FULL = -4;
    private static final int FAR_NONE = -1000000000;
    private static final int SET = 0, SUM = 1, LESS = 2, TIMES = 3, GET = 4, PUT = 5, LEAP = 6, END = 7;
    private static int checked;
    private static int wrong;

    public static void main(String[] args) {
        nothing();
        registers();
        cells();
        wraps();
        leaps();
        ends();
        beginnings();
        lastLines();
        steps();
        caches();
        guesses();
        places();
        bursts();
        warm();
        figures();
        differences();
        odds();
        answers();
        likes();
        dated();
        undone();
        withTime();
        fitted();
        foretold();
        sought();
        faults();
        worked();
        rung();
        forged();
        images();
        counts();
        digests();
        calls();
        System.out.println(checked - wrong + " of " + checked + " edges are as due");
        if (wrong != 0) {
            System.exit(1);
        }
    }

    private static void due(int promise, String what, long got, long want) {
        checked++;
        if (got != want) {
            wrong++;
            System.out.println("promise " + promise + ", " + what + ": answered " + got + ", due is " + want);
        }
    }

    // ---- what tests begin with

    private static FastWhy program(int[]... lines) {
        FastWhy x = new FastWhy();
        x.program();
        lines(x, 0, lines);
        return x;
    }

    private static void lines(FastWhy x, int program, int[]... lines) {
        for (int[] line : lines) {
            x.line(program, line[0], line[1], line[2], line.length > 3 ? line[3] : 0);
        }
    }

    /** A BUILD of PROGRAM 0 as it is, and a SETTING. */
    private static FastWhy built(FastWhy x, int r4, int r5, int r6, int r7) {
        x.build(0, 0);
        x.setting(r4, r5, r6, r7);
        return x;
    }

    /** BUILD 0: register 4 goes down to 0, 2 steps each time, behind a SET. */
    private static FastWhy loop() {
        return program(new int[] {SET, 1, 1}, new int[] {LESS, 4, 4, 1}, new int[] {LEAP, 4, 1});
    }

    /** BUILDS of one SET each, a RUN of each FORGED to a TIME. */
    private static FastWhy timed(int... times) {
        FastWhy x = program(new int[] {SET, 0, 0});
        x.setting(0, 0, 0, 0);
        for (int i = 0; i < times.length; i++) {
            x.build(0, 0);
            x.run(i, 0, 0, 0, 0, false);
            x.forge(i, times[i]);
        }
        return x;
    }

    private static FastWhy rules(FastWhy x, String text) {
        x.erase();
        return Twins.written(x, text);
    }

    private static long drawn(long lot, int times) {
        long all = lot & 0xffffffffL;
        for (int i = 0; i < times; i++) {
            all = all * 1103515245L + 12345 & 0xffffffffL;
        }
        return all >> 16;
    }

    // ---- promise 1

    /** "nothing is there but MACHINES" */
    private static void nothing() {
        FastWhy x = new FastWhy();
        for (int i = 0; i <= 8; i++) {
            due(1, "nothing is there: count " + i, x.count(i), 0);
        }
        due(1, "no DIFFERENCE", x.difference(0), FAR_NONE);
        due(1, "nothing stands", x.stand(), 0);
        due(1, "nothing to erase", x.erase(), 0);
        due(1, "RULES end too early", x.fault(), 1);
        due(1, "no RUN is wrong", x.check(), NONE);
        due(1, "no LOOKS", x.answer(), 0);
        due(1, "ODDS", x.odds(0), 1);
        due(1, "of FASTER", x.odds(1), 1);
        for (int machine = 0; machine < 4; machine++) {
            due(1, "WITH of none", x.with(machine, 4), 0);
            due(1, "COSTS of none", x.fit(machine, 4, 3, 2, 2), 0);
            due(1, "the sum of none", x.fit(machine, 4, 3, 2, 3), 0);
            due(1, "FARTHEST of none", x.fit(machine, 4, 3, 2, 4), NONE);
            for (int act = 0; act < 8; act++) {
                due(1, "1 at first", x.price(machine, act, 50), 1);
            }
        }
        firstNumbers();
    }

    /** "4 lines of 4 cells, a MISS 10, 4 GUESSES, WRONG 5, no NOISE; O 20, SPAN 0" at first, on each MACHINE. */
    private static void firstNumbers() {
        FastWhy x = program(new int[] {SET, 1, 1}, new int[] {GET, 2, 0}, new int[] {SUM, 0, 0, 1},
                new int[] {LESS, 4, 4, 1}, new int[] {LEAP, 4, 1}, new int[] {SET, 0, 0}, new int[] {GET, 2, 0},
                new int[] {SET, 7, 1}, new int[] {LEAP, 7, 9}, new int[] {LEAP, 6, 0});
        built(x, 16, 0, 0, 0);
        x.setting(17, 0, 0, 0);
        for (int machine = 0; machine < 4; machine++) {
            due(1, "16 cells are 4 lines, and cell 0 is there still", x.plain(0, machine, 0, 2), 4);
            due(1, "17 cells are 5 lines, and cell 0 comes anew", x.plain(0, machine, 1, 2), 6);
            // LINE 4 is WRONG at first and last; LINES 8 and 9 have GUESSES 0 and 1: the first is WRONG alone
            due(1, "4 GUESSES", x.plain(0, machine, 0, 4), 3);
            due(1, "TIME", x.plain(0, machine, 0, 5), x.plain(0, machine, 0, 0) + 4 * 10 + 3 * 5);
            int run = x.run(0, machine, 0, machine, 23, false);
            due(1, "no NOISE at first", x.of(run, 5), x.plain(0, machine, 0, 5));
        }
        FastWhy y = loop();
        y.change(0, 0, 4, 0, 0, 0);
        built(y, 0, 0, 0, 0);
        y.build(0, 1);
        y.look(5);
        for (int i = 0; i < 4; i++) {
            y.pair(0, 1, 0, 0, 0, 0, false);
        }
        due(1, "O 20: a LOOK is not come to", y.answer(), 0);
        y.pair(0, 1, 0, 0, 0, 0, false);
        due(1, "O 20: 1 by 32 will do", y.answer(), 1);
        y.stand();
        y.pair(1, 0, 0, 0, 0, 0, true);
        y.pair(0, 0, 0, 0, 0, 0, false);
        y.pair(0, 1, 0, 0, 0, 0, false);
        y.pair(1, 0, 0, 0, 0, 0, false);
        y.pair(0, 0, 0, 0, 0, 0, false);
        due(1, "SPAN 0: a MIDDLE of 0 is LIKE", y.answer(), 3);
    }

    // ---- programs

    /** "REGISTERS 0 .. 7": the first and the last one of a, b and c are REGISTERS of their own. */
    private static void registers() {
        for (int register = 0; register < 8; register++) {
            FastWhy x = program(new int[] {SET, register, 1}, new int[] {LEAP, 7 - register, 3}, new int[] {END, 0, 0},
                    new int[] {END, 0, 0}, new int[] {END, 0, 0});
            built(x, 0, 0, 0, 0);
            due(3, "another one than " + register + " is 0", x.plain(0, 0, 0, 4), 0);
            FastWhy y = program(new int[] {SET, register, 1}, new int[] {LEAP, register, 3}, new int[] {END, 0, 0});
            built(y, 0, 0, 0, 0);
            due(3, "REGISTER " + register + " is 1", y.plain(0, 0, 0, 4), 1);
            FastWhy z = program(new int[] {SET, register, 2}, new int[] {SUM, 0, register, register},
                    new int[] {SET, 1, 1}, new int[] {LESS, 0, 0, 1}, new int[] {LEAP, 0, 3});
            built(z, 0, 0, 0, 0);
            due(3, "b and c are REGISTER " + register, z.plain(0, 0, 0, 3), 4);
        }
        int[] kept = {-1000, -1, 0, 1, 1000};
        for (int v : kept) {
            due(3, "SET to " + v, taken(program(new int[] {SET, 0, v}, new int[] {LEAP, 0, 39})), v > 0 ? 1 : 0);
        }
    }

    /** Whether the last LEAP of PROGRAM 0 was taken: no GUESS says so at first. */
    private static int taken(FastWhy x) {
        built(x, 0, 0, 0, 0);
        return x.plain(0, 0, 0, 4);
    }

    /** "MEMORY of 64 cells"; "the cell b tells (what is left of it by 64, 0 .. 63)" */
    private static void cells() {
        int[] numbers = {-1000, -129, -128, -127, -65, -64, -63, -1, 0, 1, 63, 64, 65, 127, 128, 1000};
        for (int put : numbers) {
            for (int got : numbers) {
                FastWhy x = program(new int[] {SET, 1, 1}, new int[] {PUT, 1, 4}, new int[] {GET, 2, 5},
                        new int[] {LEAP, 2, 39});
                built(x, put, got, 0, 0);
                due(3, "put " + put + ", got " + got, x.plain(0, 0, 0, 4),
                        Math.floorMod(put, 64) == Math.floorMod(got, 64) ? 1 : 0);
            }
        }
        // register 0 is 2 to the 31, wrapped: far below 0, and cell 0; one less is cell 63
        FastWhy x = program(new int[] {SET, 0, 1}, new int[] {SET, 1, 1}, new int[] {SUM, 0, 0, 0},
                new int[] {LESS, 4, 4, 1}, new int[] {LEAP, 4, 2}, new int[] {SUM, 0, 0, 5}, new int[] {PUT, 1, 0},
                new int[] {GET, 2, 6}, new int[] {LEAP, 2, 39});
        built(x, 31, 0, 0, 0);
        x.setting(31, -1, 63, 0);
        x.setting(31, -1, 0, 0);
        due(3, "the least int tells cell 0", x.plain(0, 0, 0, 4), 3);
        due(3, "the greatest int tells cell 63", x.plain(0, 0, 1, 4), 3);
        due(3, "and no other", x.plain(0, 0, 2, 4), 2);
    }

    /** "ints that wrap" */
    private static void wraps() {
        // register 0 is 1, doubled by SUM as often as register 4 says; then less register 5
        FastWhy x = program(new int[] {SET, 0, 1}, new int[] {SET, 1, 1}, new int[] {SUM, 0, 0, 0},
                new int[] {LESS, 4, 4, 1}, new int[] {LEAP, 4, 2}, new int[] {LESS, 0, 0, 5}, new int[] {LEAP, 0, 39});
        built(x, 30, 0, 0, 0);
        x.setting(31, 0, 0, 0);
        x.setting(32, 0, 0, 0);
        x.setting(31, 1, 0, 0);
        x.setting(31, -1, 0, 0);
        due(3, "2 to the 30 is above 0", x.plain(0, 0, 0, 4), 3);
        due(3, "SUM: 2 to the 31 is below 0", x.plain(0, 0, 1, 4), 2);
        due(3, "SUM: 2 to the 32 is 0", x.plain(0, 0, 2, 4), 2);
        due(3, "LESS: 1 less than the least is above 0", x.plain(0, 0, 3, 4), 3);
        due(3, "LESS: 1 more than the least is below 0", x.plain(0, 0, 4, 4), 2);
        // register 4 times 5 times 6 times 7
        FastWhy y = program(new int[] {TIMES, 0, 4, 5}, new int[] {TIMES, 0, 0, 6}, new int[] {TIMES, 0, 0, 7},
                new int[] {LEAP, 0, 39});
        built(y, 1000, 1000, 1000, 2);
        y.setting(1000, 1000, 1000, 3);
        y.setting(1000, 1000, 1000, 5);
        y.setting(1000, 1000, 1000, -3);
        y.setting(512, 512, 512, 32);
        y.setting(512, 512, 512, 16);
        int[] above = {1, 0, 1, 1, 0, 0};
        for (int i = 0; i < above.length; i++) {
            due(3, "TIMES, by SETTING " + i, y.plain(0, 0, i, 4), above[i]);
        }
    }

    /** "LEAP: if a is above 0 LINE b (0 .. 39) is next" */
    private static void leaps() {
        FastWhy x = program(new int[] {LEAP, 4, 3}, new int[] {SET, 0, 0}, new int[] {SET, 0, 0},
                new int[] {END, 0, 0});
        built(x, -1, 0, 0, 0);
        x.setting(0, 0, 0, 0);
        x.setting(1, 0, 0, 0);
        x.setting(-1000, 0, 0, 0);
        x.setting(1000, 0, 0, 0);
        int[] steps = {4, 4, 2, 4, 2};
        for (int i = 0; i < steps.length; i++) {
            due(3, "LEAP by SETTING " + i, x.plain(0, 0, i, 0), steps[i]);
            due(3, "taken or not, it is one of LEAPS", x.plain(0, 0, i, 3), 1);
        }
        // LINES 0 .. 39, LINE 39 a SET: a LEAP to 39 from LINE 0 leaves out all between
        FastWhy y = new FastWhy();
        y.program();
        y.line(0, LEAP, 4, 39, 0);
        for (int i = 1; i < 40; i++) {
            y.line(0, SET, 0, 0, 0);
        }
        built(y, 1, 0, 0, 0);
        y.setting(0, 0, 0, 0);
        due(3, "a LEAP to LINE 39", y.plain(0, 0, 0, 0), 2);
        due(3, "not taken: all forty", y.plain(0, 0, 1, 0), 40);
        FastWhy z = program(new int[] {LEAP, 4, 0});
        built(z, 1, 0, 0, 0);
        due(3, "a LEAP to itself, again and again", z.plain(0, 0, 0, 3), 2000);
        due(3, "WRONG at first alone", z.plain(0, 0, 0, 4), 1);
        due(3, "VOID", z.plain(0, 0, 0, 5), NONE);
    }

    /** "7 END. Behind the last LINE it ends."; "(c of 0, 4 to 7, b of 7, a of 7: not looked at.)" */
    private static void ends() {
        for (int to : new int[] {0, 1, 2, 3, 39}) {
            FastWhy x = program(new int[] {SET, 0, 1}, new int[] {LEAP, 0, to});
            built(x, 0, 0, 0, 0);
            due(3, "a LEAP to LINE " + to + " of two", x.plain(0, 0, 0, 0), to < 2 ? 2000 : 2);
        }
        FastWhy x = program(new int[] {END, 0, 0}, new int[] {SET, 0, 0});
        built(x, 0, 0, 0, 0);
        due(3, "END is a step, and the last", x.plain(0, 0, 0, 0), 1);
        FastWhy y = new FastWhy();
        y.program();
        built(y, 0, 0, 0, 0);
        y.noise(0, 20, 1000, 1, true);
        for (int what = 0; what <= 5; what++) {
            due(3, "without LINES it ends at once", y.plain(0, 0, 0, what), 0);
        }
        y.run(0, 0, 0, 0, 23, false);
        due(11, "without LINES: NOISE alone", y.of(0, 5), 20 * 23 + 1000);
        due(11, "without LINES it is not VOID", y.of(0, 6), 0);
        int most = Integer.MAX_VALUE;
        int least = Integer.MIN_VALUE;
        FastWhy z = program(new int[] {SET, 0, 1, most}, new int[] {GET, 1, 0, least}, new int[] {PUT, 1, 0, most},
                new int[] {LEAP, 2, 0, least}, new int[] {END, most, least, most});
        built(z, 0, 0, 0, 0);
        due(3, "what is not looked at is no matter", z.plain(0, 0, 0, 0), 5);
        due(3, "what is not looked at is no matter", z.plain(0, 0, 0, 5), 15);
    }

    /** "what REGISTERS 4 to 7 are as it begins (..); the others, MEMORY are 0": not above, not below, in each run. */
    private static void beginnings() {
        for (int kind = 0; kind < 8; kind++) {
            int register = kind % 4;
            boolean cell = kind >= 4;
            FastWhy x = new FastWhy();
            x.program();
            int free = (register + 1) % 4;
            x.line(0, cell ? GET : SUM, register, cell ? 5 : register, register);
            x.line(0, LEAP, register, 39, 0);
            x.line(0, SUM, free, free, register);
            x.line(0, LESS, register, 5, free);
            x.line(0, LEAP, register, 39, 0);
            x.line(0, SET, register, 1, 0);
            x.line(0, cell ? PUT : SET, register, cell ? 5 : 1, 0);
            built(x, 0, 0, 0, 0);
            for (int i = 0; i < 3; i++) {
                due(6, "kind " + kind + " begins with 0, PLAIN", x.plain(0, 0, 0, 4), 0);
                due(6, "kind " + kind + " begins with 0, WARM", x.of(x.run(0, 0, 0, 0, 0, true), 4), 0);
                due(6, "kind " + kind + " begins with 0, COLD", x.of(x.run(0, 0, 0, 0, 0, false), 4), 0);
            }
        }
        for (int register = 4; register < 8; register++) {
            for (int v : new int[] {-1000, -1, 0, 1, 1000}) {
                FastWhy x = program(new int[] {LEAP, register, 39}, new int[] {LESS, register, 0, register},
                        new int[] {LEAP, register, 39});
                built(x, register == 4 ? v : 0, register == 5 ? v : 0, register == 6 ? v : 0, register == 7 ? v : 0);
                due(6, "REGISTER " + register + " is " + v, x.plain(0, 0, 0, 0), v > 0 ? 1 : 3);
                due(6, "REGISTER " + register + " is " + v, x.plain(0, 0, 0, 4), v == 0 ? 0 : 1);
            }
        }
    }

    /** "PROGRAMS 0 .. 5 .. have LINES 0 .. 39": the last LINE of the first and of the last PROGRAM is as told. */
    private static void lastLines() {
        for (int program : new int[] {0, 1, 4, 5}) {
            FastWhy x = new FastWhy();
            for (int i = 0; i < 6; i++) {
                x.program();
            }
            for (int i = 0; i < 39; i++) {
                x.line(program, SET, 0, 0, 0);
            }
            x.line(program, SUM, 4, 5, 6);
            x.change(program, 39, LEAP, 4, 39, 0);
            x.change(program, 38, LESS, 4, 5, 6);
            x.build(program, 0);
            x.build(program, 1);
            x.build(program, 3);
            x.setting(1, 0, 0, 0);
            x.setting(1, 7, 6, 0);
            x.setting(1, 6, 6, 0);
            x.price(0, SUM, 50);
            due(3, "LINE 39 of PROGRAM " + program, x.plain(0, 0, 0, 5), 39 + 50);
            due(4, "another one in its stead", x.plain(1, 0, 0, 5), NONE);
            due(4, "7 less 6 is above 0", x.plain(2, 0, 1, 5), NONE);
            due(4, "6 less 6 is not", x.plain(2, 0, 2, 5), 40);
            due(2, "PROGRAM 2 has no LINES of it", x.plain(x.build(2, 0), 0, 0, 5), 0);
        }
    }

    /** "2000 steps at most, with more it is VOID (all it counted is told, but TIME is NONE)" */
    private static void steps() {
        // 1 and 2 each time: 999 times are 1999 steps
        FastWhy x = loop();
        x.line(0, SET, 0, 0, 0);
        x.line(0, SET, 0, 0, 0);
        x.change(0, 3, END, 0, 0, 0);
        x.change(0, 2, LEAP, 4, 1, 0);
        built(x, 999, 0, 0, 0);
        x.build(0, 1);
        x.setting(998, 0, 0, 0);
        x.setting(1000, 0, 0, 0);
        due(11, "1997 and 2: 1999", x.plain(0, 0, 1, 0), 1999);
        due(11, "1999 have a TIME", x.plain(0, 0, 1, 5), 1999 + 10);
        due(11, "1999 and END: 2000", x.plain(1, 0, 0, 0), 2000);
        due(11, "2000 have a TIME", x.plain(1, 0, 0, 5), 2000 + 10);
        due(11, "1999 and 2: 2000 are counted", x.plain(0, 0, 0, 0), 2000);
        due(11, "2001: VOID", x.plain(0, 0, 0, 5), NONE);
        int ended = x.run(1, 0, 0, 0, 0, false);
        int more = x.run(0, 0, 0, 0, 0, false);
        int many = x.run(0, 0, 2, 0, 0, false);
        due(11, "2000: not VOID", x.of(ended, 6), 0);
        due(11, "2001: VOID", x.of(more, 6), 1);
        int[] counted = {2000, 0, 0, 999, 2, NONE, 1};
        for (int what = 0; what < counted.length; what++) {
            due(11, "all it counted is told: " + what, x.of(more, what), counted[what]);
        }
        due(11, "the last LEAP is the 1999th step", x.of(many, 3), 999);
        due(11, "WRONG at first alone, as it has no end", x.of(many, 4), 1);
        due(37, "VOID ones", x.count(5), 2);
        lastSteps();
    }

    /** The 2000th step is what ends it: the last LINE, or a LEAP behind it. */
    private static void lastSteps() {
        FastWhy x = program(new int[] {SET, 1, 1}, new int[] {SET, 0, 0}, new int[] {LESS, 4, 4, 1},
                new int[] {LEAP, 4, 2});
        built(x, 999, 0, 0, 0);
        due(11, "2000 steps, the last one the last LINE", x.plain(0, 0, 0, 5), 2010);
        FastWhy y = program(new int[] {SET, 1, 1}, new int[] {LESS, 4, 4, 1}, new int[] {LEAP, 4, 1},
                new int[] {LEAP, 1, 39}, new int[] {SET, 0, 0});
        built(y, 999, 0, 0, 0);
        due(11, "2000 steps, the last one a LEAP behind the last LINE", y.plain(0, 0, 0, 5), 2000 + 15);
        FastWhy z = program(new int[] {SET, 1, 1}, new int[] {LESS, 4, 4, 1}, new int[] {LEAP, 4, 1},
                new int[] {LEAP, 1, 4}, new int[] {END, 0, 0});
        built(z, 999, 0, 0, 0);
        due(11, "2000 steps, the last one a LEAP to END: VOID", z.plain(0, 0, 0, 5), NONE);
    }

    // ---- machines

    /** GETS of these cells, one behind the other. */
    private static FastWhy gets(int... cells) {
        FastWhy x = new FastWhy();
        x.program();
        for (int cell : cells) {
            x.line(0, SET, 0, cell, 0);
            x.line(0, GET, 1, 0, 0);
        }
        built(x, 0, 0, 0, 0);
        return x;
    }

    private static int misses(FastWhy x, int lines, int wide) {
        x.cache(0, lines, wide, 0);
        return x.plain(0, 0, 0, 2);
    }

    /** "in line number that by W, which has its room at its number left over by L; if another one (or none) is .." */
    private static void caches() {
        due(8, "W 1: cells 0, 1 are two lines", misses(gets(0, 1), 16, 1), 2);
        due(8, "W 2: cells 0, 1 are one line", misses(gets(0, 1), 16, 2), 1);
        due(8, "W 2: cells 1, 2 are two lines", misses(gets(1, 2), 16, 2), 2);
        due(8, "W 8: cells 0, 7 are one line", misses(gets(0, 7), 16, 8), 1);
        due(8, "W 8: cells 7, 8 are two lines", misses(gets(7, 8), 16, 8), 2);
        due(8, "W 3: cells 62, 63 are two lines", misses(gets(62, 63), 16, 3), 2);
        due(8, "W 7: cells 62, 63 are two lines", misses(gets(62, 63), 16, 7), 2);
        due(8, "W 5: cells 60, 63 are one line", misses(gets(60, 63), 16, 5), 1);
        due(8, "L 1: each has the one room", misses(gets(0, 1, 0, 1), 1, 1), 4);
        due(8, "L 2: each has a room", misses(gets(0, 1, 0, 1), 2, 1), 2);
        due(8, "L 2: 0 and 2 have one", misses(gets(0, 2, 0, 2), 2, 1), 4);
        due(8, "L 16: 0 and 15 have two", misses(gets(0, 15, 0, 15), 16, 1), 2);
        due(8, "L 16: 0 and 16 have one", misses(gets(0, 16, 0, 16), 16, 1), 4);
        due(8, "L 15: 0 and 15 have one", misses(gets(0, 15, 0, 15), 15, 1), 4);
        due(8, "the same one is there: no MISS", misses(gets(5, 5, 5), 16, 1), 1);
        due(8, "none is there: line 0, too, is a MISS", misses(gets(0), 16, 8), 1);
        for (int miss : new int[] {0, 1, 200}) {
            FastWhy x = gets(0, 1, 2);
            x.cache(0, 16, 1, miss);
            due(8, "a MISS costs " + miss, x.plain(0, 0, 0, 5), 6 + 3 * miss);
            due(8, "on another MACHINE it costs 10", x.plain(0, 1, 0, 5), 6 + 10);
        }
        FastWhy y = program(new int[] {SET, 0, 5}, new int[] {PUT, 0, 0}, new int[] {GET, 1, 0});
        built(y, 0, 0, 0, 0);
        due(8, "PUT brings the line, too", y.plain(0, 0, 0, 2), 1);
        due(12, "GETS and PUTS", y.plain(0, 0, 0, 1), 2);
        for (int cost : new int[] {0, 50}) {
            FastWhy z = gets(3);
            z.price(0, GET, cost);
            due(7, "GET costs " + cost, z.plain(0, 0, 0, 5), 1 + cost + 10);
        }
    }

    /** LEAPS at two LINES, the first taken to the second, the second not: WRONG are 1 or, if they have one GUESS, 2. */
    private static int wrongs(int first, int second, int many) {
        FastWhy x = new FastWhy();
        x.program();
        for (int i = 0; i < 40; i++) {
            x.line(0, i == first || i == second ? LEAP : SET, i == first ? 4 : 0, i == first ? second : 0, 0);
        }
        built(x, 1, 0, 0, 0);
        x.guess(0, many, 3);
        return x.plain(0, 0, 0, 4);
    }

    /** "GUESSES (1 .. 16; 4): LEAP of LINE i has the one i left over by that" */
    private static void guesses() {
        due(9, "one for all", wrongs(0, 1, 1), 2);
        due(9, "two: LINES 0 and 1", wrongs(0, 1, 2), 1);
        due(9, "two: LINES 0 and 2", wrongs(0, 2, 2), 2);
        due(9, "sixteen: LINES 0 and 15", wrongs(0, 15, 16), 1);
        due(9, "sixteen: LINES 0 and 16", wrongs(0, 16, 16), 2);
        due(9, "fifteen: LINES 0 and 15", wrongs(0, 15, 15), 2);
        due(9, "sixteen: LINES 7 and 39", wrongs(7, 39, 16), 2);
        due(9, "sixteen: LINES 8 and 39", wrongs(8, 39, 16), 1);
        for (int wrongCost : new int[] {0, 1, 100}) {
            FastWhy x = program(new int[] {LEAP, 4, 39});
            built(x, 1, 0, 0, 0);
            x.guess(0, 16, wrongCost);
            due(9, "WRONG costs " + wrongCost, x.plain(0, 0, 0, 5), 1 + wrongCost);
            due(9, "on another MACHINE it costs 5", x.plain(0, 1, 0, 5), 6);
        }
        FastWhy y = program(new int[] {LEAP, 4, 39});
        built(y, 0, 0, 0, 0);
        due(9, "it says no at first: not WRONG", y.plain(0, 0, 0, 4), 0);
        lastGuess();
    }

    /** GUESS 15 and room 15 of sixteen are kept from RUN to RUN like the others, and are in the digest. */
    private static void lastGuess() {
        FastWhy x = new FastWhy();
        x.program();
        for (int i = 0; i < 14; i++) {
            x.line(0, SET, 0, 15, 0);
        }
        x.line(0, GET, 1, 0, 0);
        x.line(0, LEAP, 4, 39, 0);
        built(x, 1, 0, 0, 0);
        x.guess(0, 16, 5);
        x.cache(0, 16, 1, 10);
        for (int i = 0; i < 2; i++) {
            int run = x.run(0, 0, 0, 0, 0, i == 1);
            due(9, "GUESS 15: WRONG", x.of(run, 4), 1 - i);
            due(8, "room 15: MISSES", x.of(run, 2), 1 - i);
        }
        long h = 349;
        int[] all = {1, 0, 1, 1, 2, 0, 0, 0, 0, 16, 1, 1, 1, 1, 31, 0, 0, 0, 0, 0, 0, 0, 0,
            16, 1, 0, 1, 0, 16, 0, 0, 0, 0, 0, 0, 1, 0, 20, 0, 0, 0};
        for (int v : all) {
            h = 31 * h + v;
        }
        for (int i = 0; i < 32 + 24; i++) {
            h = 31 * h + (i < 15 ? NONE : i == 15 ? 15 : i < 31 ? 0 : i == 31 ? 1 : i % 8 < 4 ? NONE : 0);
        }
        due(38, "sixteen rooms, sixteen GUESSES", x.digest(), h);
    }

    private static int lotOfPlace(int place) {
        for (int lot = 0; lot < 100000; lot++) {
            if (drawn(lot, 1) % 64 == place) {
                return lot;
            }
        }
        return -1;
    }

    /** "its bits 16 on (0 .. 65535) left over by 64 are PLACE, if PLACES (else 0)"; "cell k lies at k and PLACE" */
    private static void places() {
        int[][] all = {{0, 0}, {0, 63}, {1, 63}, {63, 0}, {63, 1}, {63, 63}, {5, 11}};
        for (int[] one : all) {
            int there = one[0] + one[1];
            for (int cell : new int[] {there, there - 64, there - 1, there + 1, 0}) {
                if (cell >= 0 && cell < 64) {
                    due(10, "cell " + one[0] + ", PLACE " + one[1] + ", then cell " + cell,
                            again(one[0], lotOfPlace(one[1]), cell), cell == there ? 0 : 1);
                }
            }
        }
        for (int lot : new int[] {Integer.MIN_VALUE, -1, 0, 1, Integer.MAX_VALUE}) {
            int place = (int) (drawn(lot, 1) % 64);
            if (place > 0) {
                due(10, "PLACE of LOT " + lot, again(0, lot, place), 0);
                due(10, "PLACE of LOT " + lot + " and no other", again(0, lot, place - 1), 1);
            }
        }
        FastWhy x = gets(0);
        x.cache(0, 16, 1, 0);
        x.run(0, 0, 0, lotOfPlace(9), 0, false);
        int warm = x.run(0, 0, 0, lotOfPlace(11), 0, true);
        due(10, "without PLACES it is 0", x.of(warm, 2), 0);
        placesLeaveNothing();
    }

    /** "A PLAIN run: COLD, PLACE 0"; and a RUN gone through again has its own PLACE. */
    private static void placesLeaveNothing() {
        // cells 0 and 3 are one line of 4 with PLACE 0, two lines with PLACE 1
        FastWhy x = gets(0, 3);
        x.noise(0, 0, 0, 0, true);
        int apart = lotOfPlace(1);
        int together = lotOfPlace(0);
        x.run(0, 0, 0, apart, 0, false);
        due(10, "PLACE 1", x.of(0, 2), 2);
        due(13, "PLACE 0", x.plain(0, 0, 0, 2), 1);
        x.run(0, 0, 0, together, 0, false);
        due(10, "PLACE 0", x.of(1, 2), 1);
        due(34, "each has its PLACE", x.check(), NONE);
        x.run(0, 0, 0, apart, 0, false);
        due(34, "each has its PLACE", x.check(), NONE);
        due(13, "PLACE 0", x.plain(0, 0, 0, 2), 1);
        x.noise(0, 0, 0, 0, false);
        due(34, "PLACES as they are now", x.check(), 0);
    }

    /** MISSES of a WARM RUN of PLACE 0 that gets a cell, behind one with PLACES that got another. */
    private static int again(int first, int lot, int second) {
        FastWhy x = program(new int[] {GET, 0, 4});
        x.cache(0, 16, 1, 0);
        built(x, first, 0, 0, 0);
        x.setting(second, 0, 0, 0);
        x.noise(0, 0, 0, 0, true);
        x.run(0, 0, 0, lot, 0, false);
        x.noise(0, 0, 0, 0, false);
        return x.of(x.run(0, 0, 1, 0, 0, true), 2);
    }

    /** "DRIFT for each HOUR (0 .. 23)"; "BURST, one of n (0: never, at first; 1 .. 100)"; "these, left over by n, 0" */
    private static void bursts() {
        FastWhy x = gets();
        for (int drift : new int[] {0, 1, 20}) {
            x.noise(0, drift, 0, 0, false);
            for (int hour : new int[] {0, 1, 22, 23}) {
                due(10, "DRIFT", x.of(x.run(0, 0, 0, 0, hour, false), 5), drift * hour);
            }
        }
        for (int n : new int[] {0, 1, 2, 99, 100}) {
            x.noise(0, 0, 1000, n, false);
            for (int kind : new int[] {0, 1, n - 1}) {
                int lot = lotOfTwice(n, kind);
                due(10, "one of " + n + ", " + kind + " left", x.of(x.run(0, 0, 0, lot, 0, false), 5),
                        n > 0 && drawn(lot, 2) % n == 0 ? 1000 : 0);
            }
        }
        for (int lot : new int[] {Integer.MIN_VALUE, -1, 0, 1, Integer.MAX_VALUE}) {
            for (int n = 2; n <= 7; n++) {
                x.noise(0, 20, 1, n, true);
                int run = x.run(0, 0, 0, lot, 1, n % 2 == 0);
                due(10, "LOT " + lot + " by " + n, x.of(run, 5), 20 + (drawn(lot, 2) % n == 0 ? 1 : 0));
                due(12, "LOT", x.of(run, 10), lot);
            }
        }
    }

    private static int lotOfTwice(int n, int left) {
        for (int lot = 0; lot < 100000; lot++) {
            if (n > 0 && drawn(lot, 2) % n == left) {
                return lot;
            }
        }
        return 0;
    }

    /** "WARM: as the RUN ahead on that MACHINE left them (empty, if there was none; ..)" */
    private static void warm() {
        for (int kind = 0; kind < 10; kind++) {
            FastWhy x = program(new int[] {GET, 0, 0}, new int[] {LEAP, 4, 39}, new int[] {LEAP, 5, 2});
            built(x, 1, 0, 0, 0);
            x.setting(0, 1, 0, 0);
            x.run(0, 0, 0, 0, 0, false);
            between(x, kind);
            int run = x.run(0, 0, 0, 0, 0, true);
            boolean cacheIsEmpty = kind == 1 || kind == 2 || kind == 8;
            boolean guessesSayNo = kind == 4 || kind == 8 || kind == 9;
            due(11, "kind " + kind + ": MISSES", x.of(run, 2), cacheIsEmpty ? 1 : 0);
            due(11, "kind " + kind + ": WRONG", x.of(run, 4), guessesSayNo ? 1 : 0);
        }
    }

    private static void between(FastWhy x, int kind) {
        switch (kind) {
            case 0: x.cache(0, 4, 4, 200); break;
            case 1: x.cache(0, 5, 4, 10); break;
            case 2: x.cache(0, 4, 3, 10); break;
            case 3: x.guess(0, 4, 100); break;
            case 4: x.guess(0, 5, 5); break;
            case 5: x.noise(0, 0, 0, 0, false); x.price(0, 0, 9); break;
            case 6: x.run(0, 1, 1, 0, 0, false); break;
            case 7: x.plain(0, 0, 1, 0); x.check(); x.run(0, 0, 0, 0, 24, false); break;
            case 8: x.cache(0, 5, 4, 10); x.cache(0, 4, 4, 10); x.guess(0, 3, 5); x.guess(0, 4, 5); break;
            // a VOID RUN, whose LINE 1 has its LEAP not taken
            default: x.run(0, 0, 1, 0, 0, true); break;
        }
    }

    // ---- runs, pairs

    /** "FIGURES .. of RUNS below a number k: .. in order the middle one, or half of both middle ones together, cut" */
    private static void figures() {
        FastWhy x = program(new int[] {SET, 0, 0});
        built(x, 0, 0, 0, 0);
        int[] times = {9, 4, 7, 0, 10000000, 9999999};
        int[][] want = {{0, -1, -1, -1}, {1, 9, 9, 9}, {2, 4, 9, 6}, {3, 4, 9, 7}, {4, 0, 9, 5},
            {5, 0, 10000000, 7}, {6, 0, 10000000, 8}};
        for (int i = 0; i < times.length; i++) {
            x.run(0, 0, 0, 0, 0, i % 2 == 0);
            x.forge(i, times[i]);
        }
        for (int k = 0; k < want.length; k++) {
            for (int what = 0; what < 4; what++) {
                due(14, "below " + k + ": " + what, x.figure(0, 0, 0, k, what), want[k][what]);
            }
        }
        due(14, "k beyond all RUNS", x.figure(0, 0, 0, 7, 0), 6);
        due(14, "k 200", x.figure(0, 0, 0, 200, 3), 8);
        FastWhy y = Twins.runs(200);
        y.forge(199, 9000);
        due(14, "below 199: RUN 199 is not one of them", y.figure(1, 0, 0, 199, 2), 1);
        due(14, "below 200: it is", y.figure(1, 0, 0, 200, 2), 9000);
        due(14, "100 of each", y.figure(1, 0, 0, 200, 0), 100);
        due(14, "99 below 199", y.figure(1, 0, 0, 199, 0), 99);
        FastWhy all = program(new int[] {SET, 0, 0});
        built(all, 0, 0, 0, 0);
        for (int i = 0; i < 200; i++) {
            all.run(0, 0, 0, 0, 0, false);
            all.forge(i, 1000 - i);
        }
        due(14, "200 of one", all.figure(0, 0, 0, 200, 0), 200);
        due(14, "the least of 200", all.figure(0, 0, 0, 200, 1), 801);
        due(14, "the greatest of 200", all.figure(0, 0, 0, 200, 2), 1000);
        due(14, "MIDDLE of 200: half of 901 and 900", all.figure(0, 0, 0, 200, 3), 900);
        due(14, "MIDDLE of 199", all.figure(0, 0, 0, 199, 3), 901);
        FastWhy z = timed(10000000, 10000000);
        z.run(0, 0, 0, 0, 0, false);
        z.forge(2, 9999999);
        due(14, "half of great ones together, cut", z.figure(0, 0, 0, 200, 3), 9999999);
        voidFigures();
    }

    /** "how many that are not VOID"; "NONE: 1 to 3 of none" */
    private static void voidFigures() {
        FastWhy x = loop();
        built(x, 1000, 0, 0, 0);
        x.setting(3, 0, 0, 0);
        x.run(0, 0, 0, 0, 0, false);
        due(14, "VOID: how many", x.figure(0, 0, 0, 200, 0), 0);
        for (int what = 1; what <= 3; what++) {
            due(14, "VOID: none", x.figure(0, 0, 0, 200, what), NONE);
            due(14, "no RUN by this SETTING", x.figure(0, 0, 1, 200, what), NONE);
        }
        x.run(0, 0, 1, 0, 0, false);
        due(14, "one that is not VOID", x.figure(0, 0, 1, 200, 0), 1);
        due(14, "VOID still: how many", x.figure(0, 0, 0, 200, 0), 0);
    }

    /** "comes to THE SITTING (16 at most), unless one is VOID"; "NONE: -1000000000: not so many" */
    private static void differences() {
        FastWhy x = loop();
        x.change(0, 0, END, 0, 0, 0);
        built(x, 1000, 0, 0, 0);
        x.build(0, 1);
        x.setting(3, 0, 0, 0);
        due(15, "the old one is VOID", x.pair(0, 1, 0, 0, 0, 0, false), 0);
        due(15, "the new one is VOID", x.pair(1, 0, 0, 0, 0, 0, false), 0);
        due(15, "both are VOID", x.pair(0, 0, 0, 0, 0, 0, true), 0);
        due(15, "two RUNS each", x.count(4), 6);
        due(16, "none of them", x.difference(0), FAR_NONE);
        for (int i = 0; i < 16; i++) {
            due(16, "not so many yet", x.difference(i), FAR_NONE);
            due(15, "none is VOID", x.pair(0, 1, 0, 1, 0, 0, false), i + 1);
            due(16, "so many now", x.difference(i), 1 - 17);
            due(15, "a VOID one does not come to it", i < 15 ? x.pair(0, 1, 0, 0, 0, 0, false) : i + 1, i + 1);
        }
        due(16, "16 at most", x.difference(16), FAR_NONE);
        due(15, "NO, also where one would be VOID", x.pair(0, 1, 0, 0, 0, 0, false), NO);
        due(17, "how many", x.stand(), 16);
        due(17, "it is empty", x.stand(), 0);
        due(16, "not so many any more", x.difference(0), FAR_NONE);
    }

    /** BUILDS of TIMES 21, 10 and 0, in PAIRS whose DIFFERENCES are those told: 0, 10, 11, 21, or below 0. */
    private static FastWhy sat(int... differences) {
        FastWhy x = program(new int[] {SET, 0, 0}, new int[] {GET, 0, 0}, new int[] {SET, 0, 0});
        x.change(0, 1, END, 0, 0, 0);
        x.change(0, 0, END, 0, 0, 0);
        x.cache(0, 4, 4, 0);
        x.price(0, END, 0);
        x.price(0, SET, 10);
        x.price(0, GET, 1);
        x.build(0, 0);
        x.build(0, 1);
        x.build(0, 2);
        x.setting(0, 0, 0, 0);
        for (int d : differences) {
            int[] pair = d == 11 ? new int[] {1, 0} : d == 10 ? new int[] {2, 1} : d == -11 ? new int[] {0, 1}
                    : d == -10 ? new int[] {1, 2} : d == 21 ? new int[] {2, 0} : d == -21 ? new int[] {0, 2}
                    : new int[] {0, 0};
            x.pair(pair[0], pair[1], 0, 0, 0, 0, d % 2 == 0);
        }
        return x;
    }

    /** "in how many the sum is no less than it is; of FASTER: no more than it is"; "(1 of an empty one.)" */
    private static void odds() {
        int[][] all = {{}, {0}, {10}, {-10}, {10, 10}, {10, -10}, {10, 11}, {11, -10}, {-11, 10}, {0, 0, 0},
            {21, -11, -10}, {10, 10, 10, -10}, {21, 10, -11, 0, 11}};
        for (int[] some : all) {
            FastWhy x = sat(some);
            for (int i = 0; i < some.length; i++) {
                due(16, "as it is to be", x.difference(i), some[i]);
            }
            due(18, "ODDS of " + java.util.Arrays.toString(some), x.odds(0), dealt(some, 1));
            due(18, "of FASTER of " + java.util.Arrays.toString(some), x.odds(1), dealt(some, -1));
        }
        FastWhy zeros = sat(0, 0, 0, 0, 0, 0, 0, 0, 0, 0, 0, 0, 0, 0, 0, 0);
        due(18, "16 of 0: all ways", zeros.odds(0), 65536);
        due(18, "16 of 0: all ways", zeros.odds(1), 65536);
        FastWhy above = sat(10, 10, 10, 10, 10, 10, 10, 10, 10, 10, 10, 10, 10, 10, 10, 10);
        due(18, "16 above 0: one way", above.odds(0), 1);
        due(18, "16 above 0: all ways", above.odds(1), 65536);
        FastWhy below = sat(-10, -11, -21, -10, -10, -10, -10, -10, -10, -10, -10, -10, -10, -10, -10, -10);
        due(18, "16 below 0: all ways", below.odds(0), 65536);
        due(18, "16 below 0: one way", below.odds(1), 1);
    }

    private static int dealt(int[] differences, int sign) {
        int is = 0;
        for (int d : differences) {
            is += d;
        }
        int all = 0;
        for (int way = 0; way < 1 << differences.length; way++) {
            int sum = 0;
            for (int i = 0; i < differences.length; i++) {
                sum += (way >> i & 1) == 0 ? differences[i] : -differences[i];
            }
            all += sum * sign >= is * sign ? 1 : 0;
        }
        return all;
    }

    private static int answer(FastWhy x, int o, int span, int... looks) {
        x.sure(o, span);
        for (int pairs : looks) {
            x.look(pairs);
        }
        return x.answer();
    }

    /** "SLOWER 1, if its ODDS times O times how many LOOKS there are is no more than 2 to the n; FASTER 2 likewise" */
    private static void answers() {
        for (int side : new int[] {10, -10}) {
            int said = side > 0 ? 1 : 2;
            FastWhy x = sat(side, side, side, side, side, side, side, side, side, side);
            due(21, "1 times 2 times 1 is 2", answer(x, 2, 0, 1), said);
            due(21, "1 times 3 times 1 is more than 2", answer(x, 3, 0, 1), 4);
            due(21, "1 times 4 times 1 is 4", answer(x, 4, 0, 2), said);
            due(21, "1 times 5 times 1 is more than 4", answer(x, 5, 0, 2), 4);
            due(21, "1 times 16 times 2 is 32", answer(x, 16, 0, 5, 16), said);
            due(21, "1 times 17 times 2 is more than 32", answer(x, 17, 0, 5, 16), 0);
            due(21, "1 times 128 times 8 is 1024", answer(x, 128, 0, 1, 2, 3, 4, 5, 6, 7, 10), said);
            due(21, "1 times 129 times 8 is more than 1024", answer(x, 129, 0, 1, 2, 3, 4, 5, 6, 7, 10), 4);
            due(21, "1 times 1000 is no more than 1024", answer(x, 1000, 0, 10), said);
            due(21, "1 times 1000 is more than 512", answer(x, 1000, 0, 9), 4);
        }
        FastWhy y = sat(10, -10, -10, -10);
        due(21, "the first LOOK that says so", answer(y, 2, 0, 1), 1);
        due(21, "two LOOKS: the first one costs too much", answer(y, 2, 0, 1, 4), 4);
        // 10, -10, -10, -10: of 16 ways 5 have a sum of -20 or less
        due(18, "ODDS of FASTER", y.odds(1), 5);
        due(21, "5 times 3 is no more than 16", answer(y, 3, 0, 4), 2);
        due(21, "5 times 4 is more than 16", answer(y, 4, 0, 4), 4);
        looksComeTo();
    }

    /** "of the LOOKS that THE SITTING has come to"; "ahead of it 0 OPEN. (Without LOOKS 0.)" */
    private static void looksComeTo() {
        FastWhy x = sat(10, 10, 10);
        due(21, "Without LOOKS", answer(x, 2, 10000), 0);
        due(21, "a LOOK at 3: come to", answer(x, 2, 0, 3), 1);
        due(21, "a LOOK at 4: not come to", answer(x, 2, 0, 4), 0);
        due(21, "at the last LOOK", answer(x, 1000, 10, 3), 3);
        due(21, "ahead of the last LOOK", answer(x, 1000, 10, 3, 4), 0);
        due(21, "ahead of the last LOOK, 16", answer(x, 1000, 10, 1, 16), 0);
        FastWhy y = sat();
        due(21, "an empty one", answer(y, 2, 0, 1), 0);
        FastWhy z = sat(10, 10, -10, -10, -10, -10);
        due(21, "beyond the last LOOK: by its first PAIRS", answer(z, 4, 0, 2), 1);
        due(21, "beyond the last LOOK: MIDDLE of its first PAIRS", answer(z, 1000, 9, 2), 4);
        due(21, "beyond the last LOOK: MIDDLE of its first PAIRS", answer(z, 1000, 10, 2), 3);
        due(21, "MIDDLE of four is 0", answer(z, 1000, 0, 4), 3);
        FastWhy full = sat(10, 10, 10, 10, 10, 10, 10, 10, 10, 10, 10, 10, 10, 10, 10, 10);
        due(21, "the last of 16", answer(full, 1000, 0, 16), 1);
    }

    /** "3 LIKE, if the MIDDLE of its DIFFERENCES is -SPAN .. SPAN, else 4 GIVEN UP" */
    private static void likes() {
        int[][] all = {{10, 10}, {-10, 10}, {11, 10}, {-11, 11}, {21, 21}, {-21, 21}};
        for (int[] one : all) {
            FastWhy x = sat(one[0]);
            due(21, "MIDDLE " + one[0] + ", SPAN as told", answer(x, 1000, one[1], 1),
                    Math.abs(one[0]) <= one[1] ? 3 : 4);
            due(21, "MIDDLE " + one[0] + ", SPAN one less", answer(x, 1000, Math.abs(one[0]) - 1, 1), 4);
            due(21, "MIDDLE " + one[0] + ", SPAN one more", answer(x, 1000, Math.abs(one[0]) + 1, 1), 3);
        }
        due(21, "MIDDLE 0, SPAN 0", answer(sat(0), 1000, 0, 1), 3);
        // 21 and 10 are 31 together: 15, cut; -21 and -10: -15, cut
        due(21, "half of 31, cut", answer(sat(21, 10), 1000, 15, 2), 3);
        due(21, "half of 31, cut", answer(sat(21, 10), 1000, 14, 2), 4);
        due(21, "half of -31, cut", answer(sat(-21, -10), 1000, 15, 2), 3);
        due(21, "half of -31, cut", answer(sat(-21, -10), 1000, 14, 2), 4);
        // 200 steps of 50, and a SET
        for (int more = 0; more <= 1; more++) {
            FastWhy x = loop();
            x.change(0, 0, END, 0, 0, 0);
            built(x, 100, 0, 0, 0);
            x.build(0, 1);
            x.guess(0, 4, 0);
            x.price(0, LESS, 50);
            x.price(0, LEAP, 50);
            x.price(0, END, 0);
            x.price(0, SET, more);
            x.pair(1, 0, 0, 0, 0, 0, false);
            due(16, "a great DIFFERENCE", x.difference(0), 10000 + more);
            due(21, "SPAN 10000", answer(x, 1000, 10000, 1), more == 0 ? 3 : 4);
            x.stand();
            x.pair(0, 1, 0, 0, 0, 0, false);
            due(21, "SPAN -10000", x.answer(), more == 0 ? 3 : 4);
        }
    }

    // ---- why

    /** "None for fewer than two"; "of like ones the first"; "no more than that and SLACK (0 .. 100000) more" */
    private static void dated() {
        FastWhy none = timed();
        none.build(0, 0);
        none.build(0, 0);
        FastWhy one = timed(5);
        one.build(0, 0);
        FastWhy two = timed(5, 9);
        for (int what = 0; what <= 2; what++) {
            due(22, "of none", none.step(0, 1, 0, 0, 0, what), NONE);
            due(22, "of one", one.step(0, 1, 0, 0, 0, what), NONE);
            due(22, "of two, one of them", two.step(1, 1, 0, 0, 0, what), NONE);
            due(22, "of two", two.step(0, 1, 0, 0, 0, what), what == 0 ? 1 : what == 1 ? 0 : 2);
        }
        FastWhy x = timed(0, 100000, 100000, 0);
        // ahead of 1: 0 and (0 + 0 + 100000); of 2: 50000 twice, and 50000 twice; of 3: like 1
        due(22, "of like ones the first", x.step(0, 3, 0, 0, 0, 0), 1);
        due(22, "COST", x.step(0, 3, 0, 0, 0, 1), 100000);
        due(22, "COULD BE, SLACK 0: like ones", x.step(0, 3, 0, 0, 0, 2), 2 + 8);
        due(22, "COULD BE, SLACK one less", x.step(0, 3, 0, 0, 99999, 2), 2 + 8);
        due(22, "COULD BE, SLACK as much", x.step(0, 3, 0, 0, 100000, 2), 2 + 4 + 8);
        FastWhy y = timed(0, 100001, 100001, 0);
        due(22, "COST", y.step(0, 3, 0, 0, 0, 1), 100001);
        due(22, "COULD BE, SLACK too little by one", y.step(0, 3, 0, 0, 100000, 2), 2 + 8);
        manyBuilds();
    }

    private static void manyBuilds() {
        int[] times = new int[24];
        times[23] = 10000000;
        FastWhy x = timed(times);
        due(22, "the last of 24", x.step(0, 23, 0, 0, 0, 0), 23);
        due(22, "its bit", x.step(0, 23, 0, 0, 0, 2), 1 << 23);
        due(22, "all of 24 but the first", x.step(0, 22, 0, 0, 0, 2), (1 << 23) - 2);
        for (int i = 12; i < 24; i++) {
            x.forge(i, 10000000);
        }
        due(22, "great ones", x.step(0, 23, 0, 0, 0, 0), 12);
        due(22, "great ones", x.step(0, 23, 0, 0, 0, 1), 0);
        x.forge(0, 10000000);
        due(22, "a great COST", x.step(0, 23, 0, 0, 100000, 1), 10000000);
        due(22, "with a great COST", x.step(0, 23, 0, 0, 100000, 2), 1 << 12);
    }

    /** "bring PLAIN TIME to the old one's and SPAN at most (VOID never; also the empty set)" */
    private static void undone() {
        FastWhy x = new FastWhy();
        x.program();
        for (int i = 0; i < 10; i++) {
            x.line(0, SET, 0, 0, 0);
            x.change(0, i, SUM, 0, 0, 0);
        }
        x.price(0, SUM, 2);
        built(x, 0, 0, 0, 0);
        x.build(0, 1023);
        x.build(0, 512);
        int[] sets = {1, 10, 45, 120, 210, 252, 210, 120, 45, 10, 1};
        for (int span = 0; span <= 10; span++) {
            due(23, "SPAN " + span + ": how many", x.back(1, 0, 0, 0, span, 0), sets[span]);
            due(23, "SPAN " + span + ": the least number of the fewest", x.back(1, 0, 0, 0, span, 1),
                    (1 << 10 - span) - 1);
            due(23, "SPAN " + span + ": ALONE", x.back(1, 0, 0, 0, span, 2), span >= 9 ? 1023 : 0);
        }
        due(23, "SPAN 11: the empty set alone", x.back(1, 0, 0, 0, 11, 0), 1);
        due(23, "the last CHANGE", x.back(2, 0, 0, 0, 0, 1), 512);
        due(23, "the last CHANGE, ALONE", x.back(2, 0, 0, 0, 0, 2), 512);
        due(23, "all but the last", x.back(1, 2, 0, 0, 0, 1), 511);
        due(23, "no CHANGE in the new one but not in the old one", x.back(0, 1, 0, 0, 0, 0), 1);
        due(23, "the empty set", x.back(0, 1, 0, 0, 0, 1), 0);
        due(23, "itself", x.back(1, 1, 0, 0, 0, 1), 0);
        due(23, "itself, ALONE", x.back(1, 1, 0, 0, 0, 2), 0);
        x.price(3, SUM, 3);
        due(23, "on another MACHINE each costs 2 more", x.back(1, 0, 3, 0, 10, 1), 31);
        due(23, "on another MACHINE each costs nothing more", x.back(1, 0, 2, 0, 0, 1), 0);
        x.price(0, SUM, 0);
        due(23, "faster than the old one: the empty set", x.back(1, 0, 0, 0, 0, 1), 0);
        greatSpan();
        unlikeSets();
    }

    /** The new one takes 2000 steps of 50; a WRONG one costs 0 or 1. */
    private static void greatSpan() {
        for (int more = 0; more <= 1; more++) {
            FastWhy x = program(new int[] {SET, 1, 1}, new int[] {SET, 0, 0}, new int[] {LESS, 4, 4, 1},
                    new int[] {LEAP, 4, 2});
            x.change(0, 0, END, 0, 0, 0);
            x.change(0, 1, SET, 0, 1, 0);
            x.build(0, 1);
            x.build(0, 2);
            x.setting(999, 0, 0, 0);
            for (int act = 0; act < 7; act++) {
                x.price(0, act, 50);
            }
            x.price(0, END, 0);
            x.guess(0, 4, more);
            due(23, "the new one's TIME", x.plain(1, 0, 0, 5), 100000 + 2 * more);
            due(23, "SPAN 100000: how many", x.back(1, 0, 0, 0, 100000, 0), 1 - more);
            due(23, "SPAN 100000: the one told", x.back(1, 0, 0, 0, 100000, 1), more == 0 ? 0 : NONE);
            due(23, "SPAN 99999", x.back(1, 0, 0, 0, 99999, 0), 0);
            due(23, "NONE: there is no set", x.back(1, 0, 0, 0, 99999, 1), NONE);
        }
    }

    /** A set that is fewer but greater in number; a set whose part is VOID. */
    private static void unlikeSets() {
        FastWhy x = new FastWhy();
        x.program();
        for (int i = 0; i < 3; i++) {
            x.line(0, SET, 0, 0, 0);
        }
        x.change(0, 0, SUM, 0, 0, 0);
        x.change(0, 1, SUM, 0, 0, 0);
        x.change(0, 2, TIMES, 0, 0, 0);
        x.price(0, SUM, 2);
        x.price(0, TIMES, 3);
        built(x, 0, 0, 0, 0);
        x.build(0, 7);
        // 4 more; either both of 1 go, or that of 2
        due(23, "two LEAST ones", x.back(1, 0, 0, 0, 2, 0), 2);
        due(23, "the fewest, of a greater number", x.back(1, 0, 0, 0, 2, 1), 4);
        due(23, "ALONE", x.back(1, 0, 0, 0, 2, 2), 4);
        // LINE 0 as it was goes round for ever, unless LINE 1 is END
        FastWhy y = program(new int[] {SET, 0, 1}, new int[] {LEAP, 0, 0});
        y.change(0, 0, SET, 0, 0, 0);
        y.change(0, 1, END, 0, 0, 0);
        y.build(0, 3);
        y.build(0, 1);
        y.setting(0, 0, 0, 0);
        due(23, "the old one: SET, LEAP", y.plain(1, 0, 0, 5), 2);
        y.price(0, END, 9);
        due(23, "VOID never", y.back(0, 1, 0, 0, 100000, 0), 1);
        due(23, "END goes", y.back(0, 1, 0, 0, 0, 1), 2);
        due(23, "SPAN 8: none needed", y.back(0, 1, 0, 0, 8, 1), 0);
        FastWhy z = program(new int[] {SET, 0, 1}, new int[] {LEAP, 0, 0});
        z.change(0, 0, SET, 0, 0, 0);
        z.change(0, 1, END, 0, 0, 0);
        z.price(0, END, 9);
        z.build(0, 2);
        z.build(0, 1);
        z.setting(0, 0, 0, 0);
        due(23, "VOID without END: no set", z.back(0, 1, 0, 0, 7, 0), 0);
        due(23, "VOID without END: NONE", z.back(0, 1, 0, 0, 7, 1), NONE);
        due(23, "VOID without END: none ALONE", z.back(0, 1, 0, 0, 100000, 2), 0);
        due(23, "the empty set does", z.back(0, 1, 0, 0, 8, 0), 1);
    }

    /** "over RUNS (not VOID) of a MACHINE, n of them": none, one, two, 200 of them. */
    private static void withTime() {
        FastWhy x = loop();
        built(x, 3, 0, 0, 0);
        x.setting(1000, 0, 0, 0);
        x.setting(1, 0, 0, 0);
        due(24, "of none", x.with(0, 0), 0);
        x.run(0, 0, 1, 0, 0, false);
        due(24, "of VOID ones: none", x.with(0, 0), 0);
        x.run(0, 0, 0, 0, 0, false);
        due(24, "of one", x.with(0, 0), 0);
        x.run(0, 0, 2, 0, 0, false);
        // STEPS 7 and 3, TIMES 17 and 3
        due(24, "of two", x.with(0, 0), 2 * (7 * 17 + 3 * 3) - 10 * 20);
        x.forge(1, 0);
        due(24, "below 0", x.with(0, 0), 2 * (3 * 3) - 10 * 3);
        FastWhy y = loop();
        y.line(0, END, 0, 0, 0);
        built(y, 999, 0, 0, 0);
        y.setting(0, 0, 0, 0);
        for (int i = 0; i < 200; i++) {
            y.run(0, 0, i % 2, 0, 0, false);
            y.forge(i, i % 2 == 0 ? 10000000 : 0);
        }
        // STEPS 2000 and 4
        due(24, "of 200, beyond an int", y.with(0, 0), 200L * 100 * 2000 * 10000000L - 100L * 2004 * 100 * 10000000L);
    }

    /** "by whole numbers 0 .. 12 each"; "of like ones the first by numbers"; "(Without RUNS: 0, 0, 0, sum 0.)" */
    private static void fitted() {
        int[][] all = {{0, 0, 0}, {1, 1, 0}, {12, 12, 0}, {13, 12, 1}, {10000000, 12, 9999988}};
        for (int[] one : all) {
            FastWhy x = timed(one[0]);
            due(26, "TIME " + one[0] + " of one step", x.fit(0, 0, 1, 2, 0), one[1]);
            due(26, "TIME " + one[0] + " of one step, the last COUNT", x.fit(0, 1, 2, 0, 2), one[1]);
            due(26, "TIME " + one[0] + " of one step, the second COUNT", x.fit(0, 1, 0, 2, 1), one[1]);
            due(26, "the sum", x.fit(0, 0, 1, 2, 3), one[2]);
            due(26, "FARTHEST", x.fit(0, 0, 1, 2, 4), 0);
        }
        // one step that is a LEAP: STEPS 1, LEAPS 1; 5 is 0 and 5, 20 is 8 and 12, 24 is 12 and 12, 25 has 1 left
        int[][] both = {{5, 0, 5, 0}, {12, 0, 12, 0}, {13, 1, 12, 0}, {20, 8, 12, 0}, {24, 12, 12, 0}, {25, 12, 12, 1}};
        for (int[] one : both) {
            FastWhy x = program(new int[] {LEAP, 0, 0});
            built(x, 0, 0, 0, 0);
            x.run(0, 0, 0, 0, 0, false);
            x.forge(0, one[0]);
            due(26, "of like ones the first: STEPS", x.fit(0, 0, 3, 1, 0), one[1]);
            due(26, "of like ones the first: LEAPS", x.fit(0, 0, 3, 1, 1), one[2]);
            due(26, "what is 0 costs 0", x.fit(0, 0, 3, 1, 2), 0);
            due(26, "of like ones the first, turned: LEAPS", x.fit(0, 3, 0, 1, 0), one[1]);
            due(26, "the sum", x.fit(0, 0, 3, 1, 3), one[3]);
        }
        // TIMES 4 and 8 of one step: each of 4 .. 8 makes 4 in all
        FastWhy y = timed(4, 8);
        due(26, "of like sums the first", y.fit(0, 0, 1, 2, 0), 4);
        due(26, "FARTHEST", y.fit(0, 0, 1, 2, 4), 1);
        y.forge(1, 4);
        due(26, "FARTHEST, of like ones the first", y.fit(0, 0, 1, 2, 4), 0);
        fittedToNone();
    }

    /** "over its RUNS (not VOID, not KEPT OUT)" */
    private static void fittedToNone() {
        FastWhy x = loop();
        built(x, 1000, 0, 0, 0);
        x.setting(3, 0, 0, 0);
        x.run(0, 0, 0, 0, 0, false);
        x.run(0, 0, 1, 0, 0, false);
        x.run(0, 1, 1, 0, 0, false);
        x.forge(1, 70);
        x.forge(2, 7);
        due(26, "a VOID one is not one of them", x.fit(0, 0, 1, 2, 3), 0);
        due(26, "STEPS 7, TIME 70", x.fit(0, 0, 1, 2, 0), 10);
        due(26, "FARTHEST is by its number", x.fit(0, 0, 1, 2, 4), 1);
        due(26, "another MACHINE's", x.fit(1, 0, 1, 2, 0), 1);
        due(26, "another MACHINE's", x.fit(1, 0, 1, 2, 4), 2);
        x.keep(1, true);
        for (int what = 0; what <= 3; what++) {
            due(26, "VOID or KEPT OUT: none", x.fit(0, 0, 1, 2, what), 0);
            due(26, "no RUN there", x.fit(3, 0, 1, 2, what), 0);
        }
        due(26, "VOID or KEPT OUT: none", x.fit(0, 0, 1, 2, 4), NONE);
        due(26, "no RUN there", x.fit(3, 0, 1, 2, 4), NONE);
        FastWhy y = Twins.runs(200);
        for (int i = 0; i < 200; i++) {
            y.forge(i, 10000000);
        }
        // each is a step, each second one a GET; these MISS as long as they are COLD, 51 times
        due(26, "a great sum", y.fit(0, 0, 1, 2, 3), 200L * 10000000 - 12 * (200 + 100 + 51));
        due(26, "FARTHEST of 200", y.fit(0, 0, 1, 2, 4), 1);
        due(26, "12 each", y.fit(0, 0, 1, 2, 2), 12);
    }

    /** "NONE: -1000000000: VOID, or no RUN is KEPT OUT (1, 2)" */
    private static void foretold() {
        FastWhy x = loop();
        built(x, 3, 0, 0, 0);
        x.setting(1000, 0, 0, 0);
        x.setting(1, 0, 0, 0);
        x.setting(999, 0, 0, 0);
        due(27, "without RUNS: 0", x.foretell(0, 0, 0, 0, 3, 4, 0), 0);
        x.run(0, 0, 2, 0, 0, false);
        x.run(0, 0, 0, 0, 0, false);
        x.run(0, 0, 1, 0, 0, false);
        x.keep(2, true);
        for (int what = 0; what <= 2; what++) {
            due(27, "VOID", x.foretell(0, 0, 1, 0, 3, 4, what), FAR_NONE);
        }
        // LEAPS 1 and 3, WRONG 0 and 2, TIMES 3 and 17: the first by numbers is 0, 3, 4
        due(27, "not VOID, just", x.foretell(0, 0, 3, 0, 3, 4, 0), 999 * 3 + 2 * 4);
        due(27, "KEPT OUT is a VOID one alone", x.foretell(0, 0, 0, 0, 3, 4, 1), FAR_NONE);
        due(27, "KEPT OUT is a VOID one alone", x.foretell(0, 0, 0, 0, 3, 4, 2), FAR_NONE);
        x.run(0, 1, 0, 0, 0, false);
        x.keep(3, true);
        due(27, "KEPT OUT is another MACHINE's", x.foretell(0, 0, 0, 0, 3, 4, 1), FAR_NONE);
        due(27, "none is KEPT OUT: FORETOLD is told", x.foretell(0, 0, 0, 0, 3, 4, 0), 17);
        x.run(0, 0, 0, 0, 0, false);
        x.keep(4, true);
        due(27, "one KEPT OUT, just so: lower", x.foretell(0, 0, 0, 0, 3, 4, 1), 17);
        due(27, "one KEPT OUT, just so: upper", x.foretell(0, 0, 0, 0, 3, 4, 2), 17);
        x.forge(4, 0);
        due(27, "one KEPT OUT: lower is upper", x.foretell(0, 0, 2, 0, 3, 4, 1), 3 - 17);
        due(27, "one KEPT OUT: lower is upper", x.foretell(0, 0, 2, 0, 3, 4, 2), 3 - 17);
        x.run(0, 0, 0, 0, 0, false);
        x.forge(5, 10000000);
        x.keep(5, true);
        due(27, "two KEPT OUT: lower, below 0", x.foretell(0, 0, 2, 0, 3, 4, 1), 3 - 17);
        due(27, "two KEPT OUT: upper", x.foretell(0, 0, 2, 0, 3, 4, 2), 3 + 10000000 - 17);
        x.keep(5, false);
        x.keep(4, false);
        due(27, "none is KEPT OUT any more", x.foretell(0, 0, 2, 0, 3, 4, 2), FAR_NONE);
        foretoldByMany();
    }

    /** The first and the last RUN of 200 are KEPT OUT; the others are one step of 5, and a GET of 1 or none. */
    private static void foretoldByMany() {
        FastWhy x = Twins.runs(200);
        for (int i = 1; i < 199; i++) {
            x.forge(i, i % 2 == 1 ? 5 : 6);
        }
        x.keep(0, true);
        x.keep(199, true);
        x.forge(0, 0);
        due(27, "the last one KEPT OUT is 4 too little, the first 6", x.foretell(0, 0, 0, 0, 1, 3, 1), 6 - 6);
        due(27, "the last one KEPT OUT is 4 too little", x.foretell(0, 0, 0, 0, 1, 3, 2), 6 - 4);
        x.forge(199, 105);
        due(27, "the last one KEPT OUT is 100 too much", x.foretell(0, 0, 0, 0, 1, 3, 2), 6 + 100);
    }

    /** "as long as TIMES together (of VOID ones 2000) are no more than it" */
    private static void sought() {
        FastWhy x = loop();
        x.build(0, 0);
        due(28, "no SETTING: NONE", x.seek(0, 0, 1000000, 0), NONE);
        due(28, "no SETTING: none tried", x.seek(0, 0, 1000000, 1), 0);
        x.setting(1000, 0, 0, 0);
        x.setting(3, 0, 0, 0);
        x.setting(1000, 0, 0, 0);
        x.setting(1, 0, 0, 0);
        int[][] all = {{0, -1, 0}, {1999, -1, 0}, {2000, -1, 1}, {2016, -1, 1}, {2017, 1, 2}, {4016, 1, 2},
            {4017, 1, 3}, {4019, 1, 3}, {4020, 3, 4}, {1000000, 3, 4}};
        for (int[] one : all) {
            due(28, "for " + one[0] + ": the SETTING", x.seek(0, 0, one[0], 0), one[1]);
            due(28, "for " + one[0] + ": how many", x.seek(0, 0, one[0], 1), one[2]);
        }
        FastWhy free = new FastWhy();
        free.program();
        free.build(0, 0);
        for (int i = 0; i < 8; i++) {
            free.setting(i, 0, 0, 0);
        }
        due(28, "TIME 0 for 0: the first", free.seek(0, 0, 0, 0), 0);
        due(28, "TIME 0 for 0: all eight", free.seek(0, 0, 0, 1), 8);
        // the second one is too dear, so the third is not tried, cheap as it is
        FastWhy y = loop();
        built(y, 3, 0, 0, 0);
        y.setting(100, 0, 0, 0);
        y.setting(1, 0, 0, 0);
        due(28, "not beyond one that is too dear", y.seek(0, 0, 30, 1), 1);
        due(28, "not beyond one that is too dear", y.seek(0, 0, 30, 0), 0);
        // TIMES of 100000 each are no more than 1000000 for eight
        FastWhy z = program(new int[] {SET, 1, 1}, new int[] {SET, 0, 0}, new int[] {LESS, 4, 4, 1},
                new int[] {LEAP, 4, 2});
        z.build(0, 0);
        for (int i = 0; i < 8; i++) {
            z.setting(999, 0, 0, i);
        }
        for (int act = 0; act < 8; act++) {
            z.price(0, act, 50);
        }
        z.guess(0, 4, 0);
        due(28, "eight of 100000", z.seek(0, 0, 800000, 1), 8);
        due(28, "seven of 100000", z.seek(0, 0, 799999, 1), 7);
    }

    // ---- rules

    private static void faultOf(String text, int want) {
        due(31, "FAULT of '" + text + "'", rules(new FastWhy(), text).fault(), want);
    }

    /** "10 times the place of the first character that can not stand there (its length: too early) and 1; 2: .." */
    private static void faults() {
        faultOf("", 1);
        faultOf(" ", 11);
        faultOf(" ".repeat(39), 391);
        faultOf(" ".repeat(40), 401);
        faultOf(" ".repeat(39) + "1", NONE);
        faultOf("1" + " ".repeat(39), NONE);
        faultOf(" ".repeat(39) + "+", 391);
        faultOf(" ".repeat(38) + "1+", 401);
        faultOf("-".repeat(39) + "n", NONE);
        faultOf("!".repeat(39) + "n", NONE);
        faultOf("-".repeat(40), 401);
        faultOf("1+1+1+1+1+1+1+1+1+1+1+1+1+1+1+1+1+1+1+1+", 401);
        faultOf("1+1+1+1+1+1+1+1+1+1+1+1+1+1+1+1+1+1+1+1 ", NONE);
        faultOf("1|1&1<1+1*1|1&1>1-1/1|1&1=1+1*1|1&1<1-1", NONE);
        for (int digits = 1; digits <= 40; digits++) {
            faultOf("9".repeat(digits), digits <= 6 ? NONE : 2);
        }
        faultOf("000000", NONE);
        faultOf("0000000", 2);
        faultOf("1+1234567", 22);
        faultOf("1 1234567", 21);
        faultOf("123456 1234567", 71);
        faultOf("123456+123456", NONE);
        faultOf("(1234567", 12);
        faultOf("1234567)", 2);
        faultOf("1234567(((((((((", 2);
        faultOf("123456n", 61);
        faultOf("123456(", 61);
        openOnes();
        wrongSigns();
        laterTexts();
    }

    /** What was written ahead of an erase, or could stand behind the 40th character, is no part of RULES. */
    private static void laterTexts() {
        FastWhy x = rules(new FastWhy(), "1234567");
        due(31, "a seventh digit", x.fault(), 2);
        due(31, "erased: six digits", rules(x, "123456").fault(), NONE);
        due(31, "erased: a longer one", rules(x, "(((((((((1").fault(), 83);
        due(31, "erased: too early", rules(x, "(").fault(), 11);
        due(31, "erased: one that is right", rules(x, "n").fault(), NONE);
        due(31, "erased: none", rules(x, "").fault(), 1);
        faultOf("1+1+1+1+1+1+1+1+1+1+1+1+1+1+1+1+1+123456", NONE);
        faultOf("1+1+1+1+1+1+1+1+1+1+1+1+1+1+1+1+ 1234567", 332);
        faultOf("1+1+1+1+1+1+1+1+1+1+1+1+1+1+1+1+1+12345(", 391);
    }

    private static void openOnes() {
        for (int open = 1; open <= 20; open++) {
            String text = "(".repeat(open) + "1" + ")".repeat(Math.min(open, 19));
            faultOf(text, open <= 8 ? NONE : 83);
        }
        faultOf("((((((((", 81);
        faultOf("(((((((((", 83);
        faultOf("((((((((1))))))))+((((((((1))))))))", NONE);
        faultOf("((((((((1)+(1)+(1)))))))) ", NONE);
        faultOf("((((((((1)+((1)))))))))", 123);
        faultOf(" ( ( ( ( ( ( ( ( (", 173);
        faultOf("!(!(!(!(!(!(!(!(!(", 173);
        faultOf("((((((((1(", 91);
        faultOf("((((((((1", 91);
        faultOf("((((((((1)))))))", 161);
        faultOf("((((((((1)))))))))", 171);
        faultOf("(1)(1)", 31);
        faultOf("(1)1", 31);
        faultOf("(1)n", 31);
        faultOf("(1)!1", 31);
        faultOf(")", 1);
        faultOf("()", 11);
        faultOf("( )", 21);
        faultOf("(1+)", 31);
        faultOf("(1<2<3)", 41);
        faultOf("(1<2)<3", NONE);
        faultOf("1<(2<3)", NONE);
        faultOf("1<2&3<4", NONE);
        faultOf("1<2=3", 31);
        faultOf("1=2=3", 31);
        faultOf("1>2+3>4", 51);
    }

    /** Each character by itself, and behind a number: the few that may stand there. */
    private static void wrongSigns() {
        for (int sign = 0; sign <= 127; sign++) {
            String one = String.valueOf((char) sign);
            boolean digit = sign >= '0' && sign <= '9';
            boolean unit = digit || "nmlgpb".contains(one);
            boolean joins = "|&<>=+-*/".contains(one);
            boolean ahead = "(!-".contains(one);
            faultOf(one, unit ? NONE : ahead || sign == ' ' ? 11 : 1);
            faultOf("n" + one, sign == ' ' ? NONE : joins ? 21 : 11);
            faultOf("1" + one, digit || sign == ' ' ? NONE : joins ? 21 : 11);
            faultOf("n" + one + "n", joins ? NONE : sign == ' ' ? 21 : 11);
            faultOf("n+" + one + "n", sign == '!' || sign == '-' || sign == ' ' ? NONE : sign == '(' ? 41
                    : unit ? 31 : 21);
        }
        faultOf("1 + 2", NONE);
        faultOf("1 2", 21);
        faultOf("12 3", 31);
        faultOf("12  3", 41);
        faultOf("n n", 21);
        faultOf("- - 1", NONE);
        faultOf("! ( 1 | 0 ) ", NONE);
    }

    /** What RULES tell of BUILD 0, which has one RUN of TIME 7. */
    private static void tells(String text, boolean truth) {
        due(32, "'" + text + "'", rules(timed(7), text).rung(0, 0, 200), truth ? 1 : 0);
    }

    /** "truths 1, 0, all is worked, longs wrap, / cut toward 0, by 0 is 0" */
    private static void worked() {
        String[] right = {"1", "2", "-1", "-5", "m", "n", "999999", "000001", "1<2", "(1<2)=1", "(2<1)=0", "(5|0)=1",
            "(0|5)=1", "(2&3)=1", "(2&0)=0", "(0|0)=0", "!0=1", "!7=0", "!-7=0", "!!7=1", "-!7=0", "--7=7",
            "7/2=3", "-7/2=-3", "7/-2=-3", "-7/-2=3", "7/0=0", "0/0=0", "-7/0=0", "1/0*5=0", "7/(1-1)+1=1", "1/2=0",
            "-1/2=0", "1|1/0", "2*3+4=10", "2+3*4=14", "8/2*3=12", "8*3/2=12", "9-4-3=2", "1-1+1=1", "1|0&0",
            "1+1=2&2*2=4", "-2*-2=4", "3--2=5", "- 7 = 0 - m", "1=1&2=2&3=3|0",
            "65536*65536*65536*32768<0", "65536*65536*65536*32767>0", "65536*65536*65536*32768/-1<0",
            "-(65536*65536*65536*32768)<0", "65536*65536*65536*65536=0", "65536*65536*65536*32768-1>0",
            "999999*999999/999999=999999", "999999+1=1000*1000"};
        for (String text : right) {
            tells(text, true);
        }
        String[] not = {"0", "-0", "000000", "1<1", "1>1", "1=0", "!1", "!m", "0&1", "1&0", "0|0", "2<1", "1/2", "-1/2",
            "7/0", "m-7", "b", "p", "n-1", "m-l", "g-l", "0&1|0", "0|1&0"};
        for (String text : not) {
            tells(text, false);
        }
        // a FAULT stands also where what is ahead has settled it
        due(32, "all is worked: a FAULT behind 1|", rules(timed(7), "1|").rung(0, 0, 200), NO);
        due(32, "all is worked: a FAULT behind 0&", rules(timed(7), "0&q").rung(0, 0, 200), NO);
    }

    /** "AS OF RUN k (RUNS below k; BUILDS of which there are none: not)"; "p MIDDLE of the BUILD ahead (..; 0)" */
    private static void rung() {
        FastWhy x = rules(new FastWhy(), "1");
        x.setting(0, 0, 0, 0);
        due(32, "no BUILDS", x.rung(0, 0, 200), 0);
        FastWhy y = timed(10, 20, 30);
        y.build(0, 0);
        y.build(0, 0);
        y.run(4, 0, 0, 0, 0, false);
        y.run(0, 0, 0, 0, 0, false);
        y.forge(4, 14);
        y.forge(3, 40);
        int[] one = {0, 1, 3, 7, 23, 23};
        for (int k = 0; k < one.length; k++) {
            due(32, "1 AS OF RUN " + k, rules(y, "1").rung(0, 0, k), one[k]);
        }
        due(32, "n=2 AS OF RUN 4", rules(y, "n=2").rung(0, 0, 4), 0);
        due(32, "n=2 AS OF RUN 5", rules(y, "n=2").rung(0, 0, 5), 1);
        due(32, "p=10 AS OF RUN 4", rules(y, "p=10").rung(0, 0, 4), 2);
        due(32, "p=12 AS OF RUN 5", rules(y, "p=12").rung(0, 0, 5), 2);
        due(32, "p AS OF RUN 1", rules(y, "p=0").rung(0, 0, 1), 1);
        due(32, "p: BUILD 0 has none ahead, BUILD 4 one without any", rules(y, "p=0").rung(0, 0, 200), 1 + 16);
        due(32, "m AS OF RUN 5", rules(y, "m=12&l=10&g=14").rung(0, 0, 5), 1);
        y.setting(0, 0, 0, 0);
        due(32, "another SETTING has none", rules(y, "1").rung(0, 1, 200), 0);
        due(32, "another MACHINE has none", rules(y, "1").rung(3, 0, 200), 0);
        FastWhy last = timed(new int[24]);
        due(32, "all of 24", rules(last, "1").rung(0, 0, 200), (1 << 24) - 1);
        due(32, "the last of 24", rules(last, "b=23").rung(0, 0, 200), 1 << 23);
        FastWhy z = loop();
        built(z, 1000, 0, 0, 0);
        z.run(0, 0, 0, 0, 0, false);
        z.build(0, 0);
        due(32, "VOID ones alone: none", rules(z, "1").rung(0, 0, 200), 0);
        FastWhy late = Twins.runs(200);
        late.forge(199, 5000);
        due(32, "AS OF RUN 199", rules(late, "g=5000").rung(0, 0, 199), 0);
        due(32, "AS OF RUN 200", rules(late, "g=5000").rung(0, 0, 200), 2);
    }

    // ---- records

    /** "the first RUN that, gone through again (WARM ones not looked at), does not give its COUNTS and TIME" */
    private static void forged() {
        FastWhy x = loop();
        built(x, 3, 0, 0, 0);
        x.setting(1000, 0, 0, 0);
        x.noise(0, 3, 0, 0, false);
        x.run(0, 0, 1, 0, 0, false);
        x.run(0, 0, 0, 0, 0, false);
        x.run(0, 0, 0, 0, 1, false);
        x.run(0, 0, 0, 0, 1, true);
        due(34, "all are right", x.check(), NONE);
        due(33, "FORGED to what it is", x.forge(1, 17), 17);
        due(34, "all are right still", x.check(), NONE);
        due(33, "FORGED by one", x.forge(2, 21), 20);
        due(34, "not right", x.check(), 2);
        due(33, "FORGED by one less", x.forge(1, 16), 17);
        due(34, "the first of two", x.check(), 1);
        due(33, "as it was", x.forge(1, 17), 16);
        due(33, "as it was", x.forge(2, 20), 21);
        due(33, "FORGED: a WARM one", x.forge(3, 0), 20);
        due(34, "WARM ones not looked at", x.check(), NONE);
        x.noise(0, 4, 0, 0, false);
        due(34, "another DRIFT: HOUR 0 is no matter", x.check(), 2);
        x.noise(0, 3, 0, 0, false);
        x.price(0, LESS, 2);
        due(34, "another cost: VOID has no TIME", x.check(), 1);
        x.price(0, LESS, 1);
        x.price(1, LESS, 2);
        due(34, "another MACHINE's cost", x.check(), NONE);
        FastWhy y = program(new int[] {SET, 0, 1}, new int[] {LEAP, 0, 3}, new int[] {END, 0, 0},
                new int[] {LEAP, 5, 0}, new int[] {LEAP, 0, 1});
        built(y, 0, 0, 0, 0);
        y.run(0, 0, 0, 0, 0, false);
        due(34, "a VOID one is right", y.check(), NONE);
        y.guess(0, 1, 5);
        due(34, "a VOID one's COUNTS are held against it", y.check(), 0);
        goneThroughAgain();
    }

    /** Each RUN has its own BUILD, MACHINE, SETTING, LOT and HOUR when it is gone through again. */
    private static void goneThroughAgain() {
        FastWhy x = loop();
        x.change(0, 0, SET, 1, 2, 0);
        x.change(0, 2, END, 0, 0, 0);
        for (int changes = 0; changes < 4; changes++) {
            x.build(0, changes);
            x.setting(5 * changes + 3, 0, 0, 0);
            x.price(changes, LESS, 10 * changes);
            x.noise(changes, changes, 100, changes + 1, true);
        }
        for (int i = 0; i < 64; i++) {
            x.run(i % 4, i / 4 % 4, i / 16, i, i % 24, false);
        }
        due(34, "all are right", x.check(), NONE);
        x.forge(63, x.of(63, 5) + 1);
        due(34, "the last one", x.check(), 63);
        x.forge(62, x.of(62, 5) - 1);
        due(34, "the last but one", x.check(), 62);
    }

    /** "IMAGES 0, 1 keep all but them; it goes on from one." */
    private static void images() {
        FastWhy x = new FastWhy();
        long empty = x.digest();
        x.image(0);
        x.program();
        x.image(0);
        x.program();
        due(35, "kept again: the later one", x.from(0) + x.count(0), 2);
        x.program();
        x.image(1);
        x.from(0);
        due(36, "each by itself", x.count(0), 1);
        x.from(1);
        due(36, "each by itself", x.count(0), 2);
        x.image(0);
        x.program();
        x.from(0);
        due(36, "an IMAGE of what came from the other", x.count(0), 2);
        due(36, "all but them: the other one is there still", x.from(1), 1);
        FastWhy y = new FastWhy();
        y.image(1);
        Twins.written(y, "n");
        built(y, 0, 0, 0, 0);
        y.sure(9, 9);
        y.from(1);
        due(36, "from an IMAGE of nothing", y.digest(), empty);
        fullImage();
        imagesOfAll();
    }

    /** Whatever is changed behind an IMAGE is undone by going on from it; whatever was changed ahead of it is kept. */
    private static void imagesOfAll() {
        List<Twins.Call> changes = Twins.changes();
        for (int i = 0; i < changes.size(); i++) {
            Twins.Call change = changes.get(i);
            FastWhy undone = Twins.some();
            undone.image(1);
            change.on(undone);
            undone.from(1);
            FastWhy left = Twins.some();
            left.image(1);
            due(36, "the change " + i + " is undone", Twins.asked(undone).equals(Twins.asked(left)) ? 1 : 0, 1);
            FastWhy kept = Twins.some();
            change.on(kept);
            kept.image(1);
            kept.from(0);
            kept.from(1);
            FastWhy changed = Twins.some();
            change.on(changed);
            changed.image(1);
            due(36, "the change " + i + " is kept", Twins.asked(kept).equals(Twins.asked(changed)) ? 1 : 0, 1);
        }
    }

    private static void fullImage() {
        FastWhy x = Twins.full();
        x.image(0);
        long digest = x.digest();
        x.stand();
        x.erase();
        x.sure(20, 0);
        x.cache(0, 1, 1, 1);
        x.guess(3, 1, 1);
        x.from(0);
        due(36, "from an IMAGE of all that can be", x.digest(), digest);
        due(36, "it is as full", x.program(), FULL);
        due(36, "it is as full", x.run(0, 0, 0, 0, 0, false), FULL);
        due(36, "it is as full", x.write('1'), FULL);
        due(36, "it is as full", x.pair(0, 1, 0, 0, 0, 0, false), NO);
        due(36, "it is as full", x.setting(0, 0, 0, 0), FULL);
        due(36, "it is as full", x.build(0, 0), FULL);
        due(36, "it is as full", x.change(0, 0, 7, 0, 0, 0), FULL);
        due(36, "it is as full", x.look(9), FULL);
        due(36, "and as much is BAD", x.look(8), BAD);
    }

    /** "How many": none, as many as can be, and none again of what can be emptied. */
    private static void counts() {
        FastWhy x = Twins.full();
        int[] most = {6, 10, 24, 8, 200, 0, 16, 8, 40};
        for (int what = 0; what < most.length; what++) {
            due(37, "as many as can be: " + what, x.count(what), most[what]);
        }
        due(17, "THE SITTING is empty: how many", x.stand(), 16);
        due(17, "it is empty", x.count(6), 0);
        due(17, "ODDS of an empty one", x.odds(0), 1);
        due(17, "LOOKS stay", x.count(7), 8);
        due(17, "RUNS stay", x.count(4), 200);
        due(30, "RULES are empty: how many", x.erase(), 40);
        due(30, "they are empty", x.count(8), 0);
        due(30, "the first again", x.write('n'), 1);
        due(30, "one", x.erase(), 1);
        due(20, "all LOOKS go", x.sure(2, 0), 1);
        due(20, "all LOOKS go", x.count(7), 0);
        due(20, "the first again", x.look(1), 1);
        FastWhy y = loop();
        built(y, 1000, 0, 0, 0);
        for (int i = 0; i < 100; i++) {
            y.pair(0, 0, 0, 0, i, 0, false);
        }
        due(37, "VOID ones, as many as can be", y.count(5), 200);
        due(37, "RUNS", y.count(4), 200);
        due(37, "no DIFFERENCES", y.count(6), 0);
        due(15, "RUNS for two are not there", y.pair(0, 0, 0, 0, 0, 0, false), FULL);
    }

    /** "of BUILDS PROGRAM, CHANGES" */
    private static void digests() {
        FastWhy x = new FastWhy();
        x.program();
        x.program();
        x.line(1, END, 0, 0, 0);
        x.change(1, 0, END, 0, 0, 0);
        x.build(1, 1);
        x.build(0, 0);
        x.build(1, 0);
        long h = 349;
        for (int v : new int[] {2, 1, 3, 0, 0, 0, 0, 0, 0, 20, 0, 1, 1, 0, 0, 1, 0}) {
            h = 31 * h + v;
        }
        for (int i = 0; i < 32; i++) {
            h = 31 * h + (i % 8 < 4 ? NONE : 0);
        }
        due(38, "BUILDS", x.digest(), h);
    }

    /** "An object is used for at most 512 calls": the dearest ones, again and again, up to the last. */
    private static void calls() {
        FastWhy x = Twins.runs(200);
        for (int made = 206; made < 511; made++) {
            int what = made % 5;
            long got = x.fit(0, made % 2 == 0 ? 0 : 3, 1, 2, what);
            if (what == 3 && made % 2 == 0) {
                due(26, "the sum, call " + made, got, 0);
            }
        }
        due(37, "the 512th call", x.count(4), 200);
    }
}
