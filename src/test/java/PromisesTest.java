/** For each promise of the document what it says: ordinary numbers, the edges, and wrong numbers. */
public final class PromisesTest {
    private static final int FAR_NONE = -1000000000;
    private static final int FAR_BAD = -2000000000;
    private static int checked;
    private static int wrong;

    private static void due(int promise, String what, long got, long want) {
        checked++;
        if (got != want) {
            wrong++;
            System.out.println("promise " + promise + ", " + what + ": answered " + got + ", due is " + want);
        }
    }

    public static void main(String[] args) {
        newObject();
        program();
        line();
        acts();
        change();
        build();
        setting();
        price();
        cache();
        guess();
        noise();
        run();
        warmth();
        steps();
        of();
        plain();
        figure();
        pair();
        difference();
        stand();
        odds();
        look();
        sure();
        answer();
        step();
        back();
        with();
        keep();
        fit();
        foretell();
        seek();
        write();
        erase();
        fault();
        rung();
        forge();
        check();
        image();
        from();
        count();
        digest();
        System.out.println(checked - wrong + " of " + checked + " answers are as due");
        if (wrong != 0) {
            System.exit(1);
        }
    }

    // ---- what tests begin with

    /** PROGRAM 0 takes as many steps as SETTING's register 4 tells: it goes down to 0 by LESS and LEAP. */
    private static FastWhy counter() {
        FastWhy x = new FastWhy();
        x.program();
        x.line(0, 0, 1, 1, 0);
        x.line(0, 2, 4, 4, 1);
        x.line(0, 6, 4, 1, 0);
        return x;
    }

    /** PROGRAM 0: one SET for each LINE; a CHANGE by another act changes its TIME by what the acts cost. */
    private static FastWhy rows(int lines) {
        FastWhy x = new FastWhy();
        x.program();
        for (int i = 0; i < lines; i++) {
            x.line(0, 0, 0, 1, 0);
        }
        return x;
    }

    /** BUILDS 0 .. of a PROGRAM of one LINE, a RUN of each FORGED to a TIME. */
    private static FastWhy timed(int... times) {
        FastWhy x = rows(1);
        x.setting(0, 0, 0, 0);
        for (int i = 0; i < times.length; i++) {
            x.build(0, 0);
            x.run(i, 0, 0, 0, 0, false);
            x.forge(i, times[i]);
        }
        return x;
    }

    private static FastWhy text(FastWhy x, String rules) {
        x.erase();
        for (int i = 0; i < rules.length(); i++) {
            x.write(rules.charAt(i));
        }
        return x;
    }

    // ---- programs, builds, settings, machines

    private static void newObject() {
        FastWhy x = new FastWhy();
        for (int i = 0; i <= 8; i++) {
            due(1, "count", x.count(i), 0);
        }
        due(1, "an act's cost", x.price(3, 7, 1), 1);
        due(1, "answer", x.answer(), 0);
        due(1, "check", x.check(), FastWhy.NONE);
        due(1, "NONE", FastWhy.NONE, -1);
        due(1, "BAD", FastWhy.BAD, -2);
        due(1, "NO", FastWhy.NO, -3);
        due(1, "FULL", FastWhy.FULL, -4);
        long h = 349;
        for (int i = 0; i < 9; i++) {
            h = 31 * h;
        }
        h = 31 * h + 20;
        h = 31 * h;
        for (int machine = 0; machine < 4; machine++) {
            for (int room = 0; room < 4; room++) {
                h = 31 * h - 1;
            }
            for (int guess = 0; guess < 4; guess++) {
                h = 31 * h;
            }
        }
        due(38, "digest of a new one", x.digest(), h);
    }

    private static void program() {
        FastWhy x = new FastWhy();
        for (int i = 0; i < 6; i++) {
            due(2, "program", x.program(), i);
        }
        due(2, "the seventh", x.program(), -4);
        due(2, "count", x.count(0), 6);
    }

    private static void line() {
        FastWhy x = new FastWhy();
        due(3, "no PROGRAM", x.line(0, 7, 0, 0, 0), -2);
        x.program();
        for (int act = -1; act <= 8; act++) {
            boolean right = act >= 0 && act <= 7;
            due(3, "act " + act, x.line(0, act, 0, 0, 0) >= 0 ? 1 : 0, right ? 1 : 0);
        }
        for (int act = 0; act < 7; act++) {
            due(3, "a of act " + act, x.line(0, act, 8, 0, 0), -2);
            due(3, "a of act " + act, x.line(0, act, -1, 0, 0), -2);
        }
        for (int act = 1; act <= 5; act++) {
            due(3, "b of act " + act, x.line(0, act, 0, 8, 0), -2);
            due(3, "b of act " + act, x.line(0, act, 0, -1, 0), -2);
        }
        for (int act = 1; act <= 3; act++) {
            due(3, "c of act " + act, x.line(0, act, 0, 0, 8), -2);
            due(3, "c of act " + act, x.line(0, act, 0, 0, -1), -2);
        }
        due(3, "b of SET", x.line(0, 0, 0, -1001, 0), -2);
        due(3, "b of SET", x.line(0, 0, 0, 1001, 0), -2);
        due(3, "b of LEAP", x.line(0, 6, 0, 40, 0), -2);
        due(3, "b of LEAP", x.line(0, 6, 0, -1, 0), -2);
        due(3, "b of SET", x.line(0, 0, 7, -1000, 99), 8);
        due(3, "b of SET", x.line(0, 0, 7, 1000, -99), 9);
        due(3, "b of LEAP", x.line(0, 6, 7, 39, 99), 10);
        due(3, "c of GET", x.line(0, 4, 7, 7, 99), 11);
        due(3, "c of PUT", x.line(0, 5, 7, 7, -99), 12);
        due(3, "all of END", x.line(0, 7, 99, -99, 99), 13);
        for (int i = 14; i < 40; i++) {
            due(3, "line", x.line(0, 3, 1, 1, 1), i);
        }
        due(3, "the 41st", x.line(0, 3, 1, 1, 1), -4);
        due(3, "the 41st, and BAD", x.line(0, 3, 1, 1, 8), -2);
        x.build(0, 0);
        due(3, "built, and FULL", x.line(0, 3, 1, 1, 1), -3);
        due(3, "built, and BAD", x.line(0, 8, 1, 1, 1), -2);
        x.program();
        due(3, "another PROGRAM is not built", x.line(1, 3, 1, 1, 1), 0);
    }

    /** What an act made is told by a loop that goes as often as it says. */
    private static void acts() {
        due(3, "SUM", made(1, 5, 7), 12);
        due(3, "LESS", made(2, 7, 5), 2);
        due(3, "LESS below 0", made(2, 5, 7), 1);
        due(3, "TIMES", made(3, 5, 7), 35);
        FastWhy x = new FastWhy();
        x.program();
        x.line(0, 0, 0, 65, 0);
        x.line(0, 0, 1, 9, 0);
        x.line(0, 5, 1, 0, 0);
        x.line(0, 0, 0, -63, 0);
        x.line(0, 4, 2, 0, 0);
        x.line(0, 0, 3, 1, 0);
        x.line(0, 2, 2, 2, 3);
        x.line(0, 6, 2, 6, 0);
        x.build(0, 0);
        x.setting(0, 0, 0, 0);
        due(3, "cells 65 and -63 are cell 1", x.plain(0, 0, 0, 3), 9);
        due(3, "one line of memory", x.plain(0, 0, 0, 2), 1);
        x.program();
        x.line(1, 0, 0, 1000, 0);
        for (int i = 0; i < 3; i++) {
            x.line(1, 3, 0, 0, 0);
        }
        x.line(1, 6, 0, 39, 0);
        x.line(1, 7, 0, 0, 0);
        x.build(1, 0);
        // 1000 to the eighth left over by 2^32 is 2701131776: below 0 as an int, so the LEAP is not taken
        due(3, "TIMES wraps", x.plain(1, 0, 0, 0), 6);
    }

    /** LEAPS of a loop that takes 1 from what the act made; one if that is 1 or less. */
    private static int made(int act, int b, int c) {
        FastWhy x = new FastWhy();
        x.program();
        x.line(0, act, 2, 4, 5);
        x.line(0, 0, 3, 1, 0);
        x.line(0, 2, 2, 2, 3);
        x.line(0, 6, 2, 2, 0);
        x.build(0, 0);
        x.setting(b, c, 0, 0);
        return x.plain(0, 0, 0, 3);
    }

    private static void change() {
        FastWhy x = rows(2);
        due(4, "no such PROGRAM", x.change(1, 0, 7, 0, 0, 0), -2);
        due(4, "no such PROGRAM", x.change(-1, 0, 7, 0, 0, 0), -2);
        due(4, "no such LINE", x.change(0, 2, 7, 0, 0, 0), -2);
        due(4, "no such LINE", x.change(0, -1, 7, 0, 0, 0), -2);
        due(4, "no such act", x.change(0, 0, 8, 0, 0, 0), -2);
        due(4, "no such REGISTER", x.change(0, 0, 1, 0, 8, 0), -2);
        x.build(0, 0);
        for (int i = 0; i < 10; i++) {
            due(4, "a BUILD is there, no matter", x.change(0, i % 2, 7, 0, 0, 0), i);
        }
        due(4, "the 11th", x.change(0, 0, 7, 0, 0, 0), -4);
        due(4, "the 11th, and BAD", x.change(0, 2, 7, 0, 0, 0), -2);
        x.build(0, 1);
        x.setting(0, 0, 0, 0);
        due(4, "as it was", x.plain(0, 0, 0, 0), 2);
        due(4, "END at once", x.plain(1, 0, 0, 0), 1);
    }

    private static void build() {
        FastWhy x = rows(2);
        x.program();
        x.line(1, 7, 0, 0, 0);
        x.change(0, 0, 7, 0, 0, 0);
        x.change(0, 0, 1, 0, 0, 0);
        x.change(0, 1, 1, 0, 0, 0);
        x.change(1, 0, 1, 0, 0, 0);
        due(5, "no such PROGRAM", x.build(2, 0), -2);
        due(5, "no such PROGRAM", x.build(-1, 0), -2);
        due(5, "bits of no CHANGE", x.build(0, 16), -2);
        due(5, "bits of no CHANGE", x.build(0, -1), -2);
        due(5, "bits of no CHANGE", x.build(0, Integer.MIN_VALUE), -2);
        due(5, "another PROGRAM's", x.build(0, 8), -3);
        due(5, "another PROGRAM's", x.build(1, 1), -3);
        due(5, "two of one LINE", x.build(0, 3), -3);
        due(5, "two LINES", x.build(0, 5), 0);
        due(5, "its own", x.build(1, 8), 1);
        for (int i = 2; i < 24; i++) {
            due(5, "build", x.build(0, i % 2), i);
        }
        due(5, "the 25th", x.build(0, 0), -4);
        due(5, "the 25th, and NO", x.build(0, 3), -3);
        due(5, "the 25th, and BAD", x.build(0, 16), -2);
        FastWhy empty = new FastWhy();
        empty.program();
        due(5, "without LINES", empty.build(0, 0), 0);
        empty.setting(0, 0, 0, 0);
        due(5, "without LINES it ends at once", empty.plain(0, 0, 0, 0), 0);
        due(5, "without LINES it ends at once", empty.plain(0, 0, 0, 5), 0);
    }

    private static void setting() {
        FastWhy x = new FastWhy();
        int[] edges = {-1001, 1001};
        for (int edge : edges) {
            due(6, "beyond", x.setting(edge, 0, 0, 0), -2);
            due(6, "beyond", x.setting(0, edge, 0, 0), -2);
            due(6, "beyond", x.setting(0, 0, edge, 0), -2);
            due(6, "beyond", x.setting(0, 0, 0, edge), -2);
        }
        due(6, "setting", x.setting(-1000, 1000, -1000, 1000), 0);
        for (int i = 1; i < 8; i++) {
            due(6, "setting", x.setting(i, i, i, i), i);
        }
        due(6, "the ninth", x.setting(0, 0, 0, 0), -4);
        due(6, "the ninth, and BAD", x.setting(0, 0, 0, 1001), -2);
        for (int register = 0; register < 8; register++) {
            FastWhy y = new FastWhy();
            y.program();
            y.line(0, 0, 0, 1, 0);
            y.line(0, 0, 0, 0, 0);
            y.line(0, 6, register, 4, 0);
            y.line(0, 7, 0, 0, 0);
            y.build(0, 0);
            y.setting(1, 1, 1, 1);
            due(6, "register " + register + " begins", y.plain(0, 0, 0, 4), register < 4 ? 0 : 1);
        }
    }

    private static void price() {
        FastWhy x = rows(3);
        x.build(0, 0);
        x.setting(0, 0, 0, 0);
        due(7, "machine", x.price(4, 0, 0), -2);
        due(7, "machine", x.price(-1, 0, 0), -2);
        due(7, "act", x.price(0, 8, 0), -2);
        due(7, "act", x.price(0, -1, 0), -2);
        due(7, "v", x.price(0, 0, 51), -2);
        due(7, "v", x.price(0, 0, -1), -2);
        due(7, "price", x.price(1, 0, 50), 1);
        due(7, "price", x.price(1, 0, 0), 50);
        due(7, "price", x.price(1, 0, 7), 0);
        due(7, "TIME there", x.plain(0, 1, 0, 5), 21);
        due(7, "TIME elsewhere", x.plain(0, 0, 0, 5), 3);
    }

    private static void cache() {
        FastWhy x = new FastWhy();
        due(8, "machine", x.cache(4, 1, 1, 0), -2);
        due(8, "machine", x.cache(-1, 1, 1, 0), -2);
        due(8, "L", x.cache(0, 0, 1, 0), -2);
        due(8, "L", x.cache(0, 17, 1, 0), -2);
        due(8, "W", x.cache(0, 1, 0, 0), -2);
        due(8, "W", x.cache(0, 1, 9, 0), -2);
        due(8, "MISS", x.cache(0, 1, 1, -1), -2);
        due(8, "MISS", x.cache(0, 1, 1, 201), -2);
        // cells 0, 3, 4, 16, 0: by 4 lines of 4 cells numbers 0, 0, 1, 4, 0; 4 and 0 have one room
        x.program();
        int[] cells = {0, 3, 4, 16, 0};
        for (int cell : cells) {
            x.line(0, 0, 0, cell, 0);
            x.line(0, 4, 1, 0, 0);
        }
        x.build(0, 0);
        x.setting(0, 0, 0, 0);
        due(8, "at first", x.plain(0, 0, 0, 1), 5);
        due(8, "at first", x.plain(0, 0, 0, 2), 4);
        due(8, "at first", x.plain(0, 0, 0, 5), 50);
        due(8, "cache", x.cache(0, 16, 1, 200), 1);
        due(8, "16 of 1: 0 and 16 have one room", x.plain(0, 0, 0, 2), 5);
        due(8, "cache", x.cache(0, 16, 8, 0), 1);
        due(8, "16 of 8", x.plain(0, 0, 0, 2), 2);
        due(8, "16 of 8", x.plain(0, 0, 0, 5), 10);
        due(8, "cache", x.cache(0, 1, 8, 3), 1);
        due(8, "1 of 8", x.plain(0, 0, 0, 2), 3);
        due(8, "1 of 8", x.plain(0, 0, 0, 5), 19);
    }

    private static void guess() {
        FastWhy x = new FastWhy();
        due(9, "machine", x.guess(4, 1, 0), -2);
        due(9, "machine", x.guess(-1, 1, 0), -2);
        due(9, "many", x.guess(0, 0, 0), -2);
        due(9, "many", x.guess(0, 17, 0), -2);
        due(9, "wrong", x.guess(0, 1, -1), -2);
        due(9, "wrong", x.guess(0, 1, 101), -2);
        // LEAPS of LINES 1 (never taken) and 3 (taken, but the last time), five times each
        x.program();
        x.line(0, 0, 1, 1, 0);
        x.line(0, 6, 0, 0, 0);
        x.line(0, 2, 4, 4, 1);
        x.line(0, 6, 4, 1, 0);
        x.build(0, 0);
        x.setting(5, 0, 0, 0);
        due(9, "LEAPS", x.plain(0, 0, 0, 3), 10);
        due(9, "two of four", x.plain(0, 0, 0, 4), 2);
        due(9, "two of four", x.plain(0, 0, 0, 5), 26);
        due(9, "guess", x.guess(0, 2, 100), 1);
        due(9, "both have one", x.plain(0, 0, 0, 4), 8);
        due(9, "both have one", x.plain(0, 0, 0, 5), 816);
        due(9, "guess", x.guess(0, 16, 0), 1);
        due(9, "two of sixteen", x.plain(0, 0, 0, 4), 2);
        due(9, "two of sixteen", x.plain(0, 0, 0, 5), 16);
    }

    private static void noise() {
        FastWhy x = new FastWhy();
        due(10, "machine", x.noise(4, 0, 0, 0, true), -2);
        due(10, "machine", x.noise(-1, 0, 0, 0, true), -2);
        due(10, "drift", x.noise(0, -1, 0, 0, true), -2);
        due(10, "drift", x.noise(0, 21, 0, 0, true), -2);
        due(10, "burst", x.noise(0, 0, -1, 0, true), -2);
        due(10, "burst", x.noise(0, 0, 1001, 0, true), -2);
        due(10, "one of", x.noise(0, 0, 0, -1, true), -2);
        due(10, "one of", x.noise(0, 0, 0, 101, true), -2);
        x.program();
        x.line(0, 4, 0, 0, 0);
        x.build(0, 0);
        x.setting(0, 0, 0, 0);
        due(10, "drift", x.noise(0, 20, 1000, 0, false), 1);
        due(10, "run", x.run(0, 0, 0, 5, 23, false), 0);
        due(10, "20 for each HOUR, no BURST", x.of(0, 5), 11 + 460);
        due(10, "burst", x.noise(0, 0, 1000, 1, false), 1);
        x.run(0, 0, 0, 5, 23, false);
        due(10, "one of one", x.of(1, 5), 1011);
        due(10, "PLAIN has none", x.plain(0, 0, 0, 5), 11);
        bursts(x);
        places();
    }

    private static void bursts(FastWhy x) {
        x.noise(0, 0, 1000, 3, false);
        for (int lot = -20; lot < 20; lot++) {
            long once = (lot & 0xffffffffL) * 1103515245L + 12345 & 0xffffffffL;
            long twice = once * 1103515245L + 12345 & 0xffffffffL;
            int run = x.run(0, 0, 0, lot, 0, false);
            due(10, "BURST of LOT " + lot, x.of(run, 5), (twice >> 16) % 3 == 0 ? 1011 : 11);
        }
    }

    /** PLACE is told by the line of one cell that comes into the CACHE: a RUN of PLACE 0 finds it there, or not. */
    private static void places() {
        FastWhy x = new FastWhy();
        x.program();
        x.line(0, 0, 0, 63, 0);
        x.line(0, 4, 1, 0, 0);
        x.build(0, 0);
        x.setting(0, 0, 0, 0);
        for (int lot = 100; lot < 140; lot++) {
            long once = (lot & 0xffffffffL) * 1103515245L + 12345 & 0xffffffffL;
            long place = (once >> 16) % 64;
            x.cache(0, 16, 8, 1);
            x.noise(0, 0, 0, 0, true);
            x.run(0, 0, 0, lot, 0, false);
            x.noise(0, 0, 0, 0, false);
            int again = x.run(0, 0, 0, lot, 0, true);
            due(10, "PLACE of LOT " + lot, x.of(again, 2), (63 + place) / 8 == 63 / 8 ? 0 : 1);
        }
    }

    // ---- runs

    private static void run() {
        FastWhy x = counter();
        due(11, "no BUILD", x.run(0, 0, 0, 0, 0, false), -2);
        x.build(0, 0);
        due(11, "no SETTING", x.run(0, 0, 0, 0, 0, false), -2);
        x.setting(3, 0, 0, 0);
        due(11, "build", x.run(1, 0, 0, 0, 0, false), -2);
        due(11, "build", x.run(-1, 0, 0, 0, 0, false), -2);
        due(11, "machine", x.run(0, 4, 0, 0, 0, false), -2);
        due(11, "machine", x.run(0, -1, 0, 0, 0, false), -2);
        due(11, "setting", x.run(0, 0, 1, 0, 0, false), -2);
        due(11, "setting", x.run(0, 0, -1, 0, 0, false), -2);
        due(11, "hour", x.run(0, 0, 0, 0, 24, false), -2);
        due(11, "hour", x.run(0, 0, 0, 0, -1, false), -2);
        for (int i = 0; i < 200; i++) {
            due(11, "run", x.run(0, 0, 0, i, i % 24, false), i);
        }
        due(11, "the 201st", x.run(0, 0, 0, 0, 0, false), -4);
        due(11, "the 201st, and BAD", x.run(0, 0, 0, 0, 24, false), -2);
        due(15, "no room for two", x.pair(0, 0, 0, 0, 0, 0, false), -4);
    }

    private static void warmth() {
        FastWhy x = new FastWhy();
        x.program();
        x.line(0, 4, 0, 0, 0);
        x.line(0, 6, 4, 3, 0);
        x.line(0, 7, 0, 0, 0);
        x.line(0, 7, 0, 0, 0);
        x.build(0, 0);
        x.setting(1, 0, 0, 0);
        int first = x.run(0, 0, 0, 0, 0, true);
        due(11, "WARM without one ahead: MISS", x.of(first, 2), 1);
        due(11, "WARM without one ahead: WRONG", x.of(first, 4), 1);
        int second = x.run(0, 0, 0, 0, 0, true);
        due(11, "WARM: MISS", x.of(second, 2), 0);
        due(11, "WARM: WRONG", x.of(second, 4), 0);
        int elsewhere = x.run(0, 1, 0, 0, 0, true);
        due(11, "another MACHINE is as it was", x.of(elsewhere, 2), 1);
        x.plain(0, 2, 0, 5);
        due(11, "PLAIN leaves nothing", x.of(x.run(0, 2, 0, 0, 0, true), 2), 1);
        due(11, "COLD", x.of(x.run(0, 0, 0, 0, 0, false), 2), 1);
        x.cache(0, 4, 4, 99);
        due(8, "another MISS alone leaves the CACHE", x.of(x.run(0, 0, 0, 0, 0, true), 2), 0);
        x.cache(0, 4, 5, 99);
        due(8, "another W: empty", x.of(x.run(0, 0, 0, 0, 0, true), 2), 1);
        x.cache(0, 5, 5, 99);
        due(8, "another L: empty", x.of(x.run(0, 0, 0, 0, 0, true), 2), 1);
        x.cache(0, 4, 5, 99);
        x.cache(0, 5, 5, 99);
        due(8, "another L and back: empty", x.of(x.run(0, 0, 0, 0, 0, true), 2), 1);
        due(9, "GUESSES stand all the while", x.of(x.run(0, 0, 0, 0, 0, true), 4), 0);
        x.guess(0, 4, 77);
        due(9, "another WRONG alone leaves them", x.of(x.run(0, 0, 0, 0, 0, true), 4), 0);
        x.guess(0, 3, 77);
        due(9, "another number: they say no", x.of(x.run(0, 0, 0, 0, 0, true), 4), 1);
    }

    private static void steps() {
        // 1 and 2 for each time round: 999 times make 1999 steps, and END or another the 2000th
        FastWhy x = counter();
        x.line(0, 7, 0, 0, 0);
        x.build(0, 0);
        x.setting(999, 0, 0, 0);
        x.setting(1000, 0, 0, 0);
        due(11, "2000 steps", x.of(x.run(0, 0, 0, 0, 0, false), 0), 2000);
        due(11, "2000 steps are not VOID", x.of(0, 6), 0);
        due(11, "2000 steps have a TIME", x.of(0, 5), 2010);
        due(11, "2002 steps", x.of(x.run(0, 0, 1, 0, 0, false), 0), 2000);
        due(11, "2002 steps are VOID", x.of(1, 6), 1);
        due(11, "VOID: TIME", x.of(1, 5), -1);
        due(11, "VOID: LEAPS are told", x.of(1, 3), 999);
        FastWhy y = rows(1);
        y.line(0, 0, 1, 1, 0);
        y.line(0, 6, 1, 39, 0);
        y.line(0, 0, 0, 0, 0);
        y.build(0, 0);
        y.setting(0, 0, 0, 0);
        due(11, "a LEAP behind the last LINE ends it", y.plain(0, 0, 0, 0), 3);
        FastWhy z = rows(39);
        z.line(0, 6, 4, 0, 0);
        z.build(0, 0);
        z.setting(0, 0, 0, 0);
        z.setting(1, 0, 0, 0);
        due(11, "all forty LINES", z.plain(0, 0, 0, 0), 40);
        due(11, "all forty LINES, again and again", z.plain(0, 0, 1, 3), 50);
        memoryIsEmpty();
    }

    /** A cell is got, then 1 is put there: with what a run ahead left the LEAP would be taken. */
    private static void memoryIsEmpty() {
        FastWhy x = new FastWhy();
        x.program();
        x.line(0, 4, 1, 0, 0);
        x.line(0, 0, 2, 1, 0);
        x.line(0, 5, 2, 0, 0);
        x.line(0, 6, 1, 5, 0);
        x.line(0, 0, 3, 1, 0);
        x.build(0, 0);
        x.setting(0, 0, 0, 0);
        for (int i = 0; i < 2; i++) {
            due(11, "MEMORY begins with 0", x.of(x.run(0, 0, 0, 0, 0, true), 0), 5);
            due(13, "MEMORY begins with 0", x.plain(0, 0, 0, 0), 5);
        }
    }

    private static void of() {
        FastWhy x = counter();
        x.build(0, 0);
        x.build(0, 0);
        x.setting(0, 0, 0, 0);
        x.setting(3, 0, 0, 0);
        due(12, "no RUN", x.of(0, 0), FAR_BAD);
        x.noise(2, 2, 0, 0, false);
        x.run(1, 2, 1, -77, 5, true);
        int[] want = {7, 0, 0, 3, 2, 7 + 10 + 10, 0, 1, 2, 1, -77, 5, 1, 0};
        for (int i = 0; i < want.length; i++) {
            due(12, "what " + i, x.of(0, i), want[i]);
        }
        x.keep(0, true);
        due(12, "KEPT OUT", x.of(0, 13), 1);
        due(12, "what", x.of(0, 14), FAR_BAD);
        due(12, "what", x.of(0, -1), FAR_BAD);
        due(12, "run", x.of(1, 0), FAR_BAD);
        due(12, "run", x.of(-1, 0), FAR_BAD);
    }

    private static void plain() {
        FastWhy x = counter();
        x.build(0, 0);
        x.setting(3, 0, 0, 0);
        x.setting(1000, 0, 0, 0);
        x.noise(0, 20, 1000, 1, true);
        int[] want = {7, 0, 0, 3, 2, 17};
        for (int i = 0; i < want.length; i++) {
            due(13, "what " + i, x.plain(0, 0, 0, i), want[i]);
        }
        due(13, "VOID: STEPS", x.plain(0, 0, 1, 0), 2000);
        due(13, "VOID: TIME", x.plain(0, 0, 1, 5), -1);
        due(13, "nothing is kept", x.count(4), 0);
        due(13, "build", x.plain(1, 0, 0, 0), -2);
        due(13, "build", x.plain(-1, 0, 0, 0), -2);
        due(13, "machine", x.plain(0, 4, 0, 0), -2);
        due(13, "setting", x.plain(0, 0, 2, 0), -2);
        due(13, "what", x.plain(0, 0, 0, 6), -2);
        due(13, "what", x.plain(0, 0, 0, -1), -2);
    }

    private static void figure() {
        FastWhy x = rows(1);
        x.build(0, 0);
        x.build(0, 0);
        x.setting(0, 0, 0, 0);
        x.setting(0, 0, 0, 0);
        int[] times = {50, 20, 35, 90};
        for (int i = 0; i < times.length; i++) {
            x.run(0, 0, 0, 0, 0, false);
            x.forge(i, times[i]);
        }
        x.run(1, 0, 0, 0, 0, false);
        x.run(0, 1, 0, 0, 0, false);
        x.run(0, 0, 1, 0, 0, false);
        due(14, "how many", x.figure(0, 0, 0, 200, 0), 4);
        due(14, "least", x.figure(0, 0, 0, 200, 1), 20);
        due(14, "greatest", x.figure(0, 0, 0, 200, 2), 90);
        due(14, "MIDDLE of four, cut", x.figure(0, 0, 0, 200, 3), 42);
        due(14, "MIDDLE of three", x.figure(0, 0, 0, 3, 3), 35);
        due(14, "MIDDLE of two", x.figure(0, 0, 0, 2, 3), 35);
        due(14, "below 1", x.figure(0, 0, 0, 1, 2), 50);
        due(14, "below 0", x.figure(0, 0, 0, 0, 0), 0);
        due(14, "below 0", x.figure(0, 0, 0, 0, 1), -1);
        due(14, "below 0", x.figure(0, 0, 0, 0, 2), -1);
        due(14, "below 0", x.figure(0, 0, 0, 0, 3), -1);
        x.keep(1, true);
        due(14, "KEPT OUT is no matter", x.figure(0, 0, 0, 200, 1), 20);
        due(14, "k", x.figure(0, 0, 0, 201, 0), -2);
        due(14, "k", x.figure(0, 0, 0, -1, 0), -2);
        due(14, "what", x.figure(0, 0, 0, 0, 4), -2);
        due(14, "what", x.figure(0, 0, 0, 0, -1), -2);
        due(14, "build", x.figure(2, 0, 0, 0, 0), -2);
        due(14, "machine", x.figure(0, 4, 0, 0, 0), -2);
        due(14, "setting", x.figure(0, 0, 2, 0, 0), -2);
        FastWhy y = counter();
        y.build(0, 0);
        y.setting(1000, 0, 0, 0);
        y.run(0, 0, 0, 0, 0, false);
        due(14, "VOID ones do not count", y.figure(0, 0, 0, 200, 0), 0);
    }

    // ---- pairs

    /** Old BUILD 0 of one step, new BUILD 1 of one GET. */
    private static FastWhy oldAndNew() {
        FastWhy x = rows(1);
        x.change(0, 0, 4, 0, 0, 0);
        x.build(0, 0);
        x.build(0, 1);
        x.setting(0, 0, 0, 0);
        return x;
    }

    private static void pair() {
        FastWhy x = oldAndNew();
        due(15, "old", x.pair(2, 0, 0, 0, 0, 0, false), -2);
        due(15, "old", x.pair(-1, 0, 0, 0, 0, 0, false), -2);
        due(15, "new", x.pair(0, 2, 0, 0, 0, 0, false), -2);
        due(15, "new", x.pair(0, -1, 0, 0, 0, 0, false), -2);
        due(15, "machine", x.pair(0, 1, 4, 0, 0, 0, false), -2);
        due(15, "setting", x.pair(0, 1, 0, 1, 0, 0, false), -2);
        due(15, "hour", x.pair(0, 1, 0, 0, 0, 24, false), -2);
        due(15, "old first", x.pair(0, 1, 0, 0, 9, 7, false), 1);
        due(15, "two RUNS", x.count(4), 2);
        int[][] want = {{0, 0}, {1, 1}, {0, 2}, {1, 3}};
        for (int[] w : want) {
            if (w[1] == 2) {
                due(15, "new first", x.pair(0, 1, 0, 0, 9, 7, true), 2);
            }
            int build = w[1] < 2 ? w[0] : 1 - w[0];
            due(15, "BUILD", x.of(w[1], 7), build);
            due(15, "LOT", x.of(w[1], 10), 9);
            due(15, "HOUR", x.of(w[1], 11), 7);
            due(15, "WARM", x.of(w[1], 12), w[0]);
        }
        due(15, "new less old", x.difference(0), 10);
        due(15, "new less old", x.difference(1), 10);
        due(15, "a like PAIR", x.pair(1, 1, 0, 0, 0, 0, false), 3);
        due(15, "the second is WARM", x.difference(2), -10);
        due(15, "the second is WARM", x.pair(1, 1, 0, 0, 0, 0, true), 4);
        due(15, "the first is COLD", x.difference(3), 10);
        for (int i = 5; i <= 16; i++) {
            due(15, "pair", x.pair(0, 1, 0, 0, 0, 0, false), i);
        }
        due(15, "the 17th", x.pair(0, 1, 0, 0, 0, 0, false), -3);
        due(15, "the 17th, and BAD", x.pair(0, 1, 0, 0, 0, -1, false), -2);
        due(15, "no RUN of it", x.count(4), 32);
        FastWhy y = counter();
        y.build(0, 0);
        y.setting(1000, 0, 0, 0);
        due(15, "a VOID one", y.pair(0, 0, 0, 0, 0, 0, false), 0);
        due(15, "its RUNS", y.count(5), 2);
        voidNew();
        FastWhy w = oldAndNew();
        for (int i = 0; i < 198; i++) {
            w.run(0, 0, 0, 0, 0, false);
        }
        due(15, "room for two", w.pair(0, 1, 0, 0, 0, 0, false), 1);
        FastWhy z = oldAndNew();
        for (int i = 0; i < 199; i++) {
            z.run(0, 0, 0, 0, 0, false);
        }
        due(15, "room for one alone", z.pair(0, 1, 0, 0, 0, 0, false), -4);
        due(15, "nothing was run", z.count(4), 199);
    }

    private static void voidNew() {
        FastWhy x = counter();
        x.change(0, 0, 7, 0, 0, 0);
        x.build(0, 1);
        x.build(0, 0);
        x.setting(1000, 0, 0, 0);
        for (int i = 0; i < 2; i++) {
            due(15, "one of both is VOID", x.pair(0, 1, 0, 0, 0, 0, i == 0), 0);
            due(15, "one of both is VOID", x.pair(1, 0, 0, 0, 0, 0, i == 0), 0);
        }
        due(15, "RUNS", x.count(4), 8);
        due(15, "VOID ones", x.count(5), 4);
    }

    private static void difference() {
        FastWhy x = oldAndNew();
        due(16, "none", x.difference(0), FAR_NONE);
        x.pair(0, 1, 0, 0, 0, 0, false);
        due(16, "difference", x.difference(0), 10);
        due(16, "not so many", x.difference(1), FAR_NONE);
        due(16, "not so many", x.difference(15), FAR_NONE);
        due(16, "below", x.difference(-1), FAR_BAD);
        due(16, "far below", x.difference(Integer.MIN_VALUE), FAR_BAD);
        farBeyond(x);
        x.forge(0, 5000);
        due(16, "it stays", x.difference(0), 10);
        for (int i = 1; i < 16; i++) {
            x.pair(0, 1, 0, 0, 0, 0, false);
        }
        due(16, "the last of 16", x.difference(15), 10);
        farBeyond(x);
        x.stand();
        due(16, "none any more", x.difference(15), FAR_NONE);
        farBeyond(x);
        farBeyond(new FastWhy());
        due(16, "below, on a new object", new FastWhy().difference(-1), FAR_BAD);
    }

    /** THE SITTING has 16 at most, but the document tells no greatest number for i. */
    private static void farBeyond(FastWhy x) {
        for (int i : new int[] {16, 17, 200, 777788138, Integer.MAX_VALUE}) {
            due(16, "not so many", x.difference(i), FAR_NONE);
        }
    }

    private static void stand() {
        FastWhy x = oldAndNew();
        due(17, "empty", x.stand(), 0);
        x.pair(0, 1, 0, 0, 0, 0, false);
        x.pair(0, 1, 0, 0, 0, 0, false);
        due(17, "stand", x.stand(), 2);
        due(17, "it is empty", x.count(6), 0);
        due(17, "RUNS stay", x.count(4), 4);
        due(17, "difference", x.difference(0), FAR_NONE);
    }

    private static void odds() {
        FastWhy x = oldAndNew();
        due(18, "empty", x.odds(0), 1);
        due(18, "empty", x.odds(1), 1);
        due(18, "what", x.odds(2), -2);
        due(18, "what", x.odds(-1), -2);
        x.pair(0, 1, 0, 0, 0, 0, false);
        due(18, "of one above 0", x.odds(0), 1);
        due(18, "of one above 0: FASTER", x.odds(1), 2);
        x.pair(1, 1, 0, 0, 0, 0, false);
        // 10 and -10: sums 0, -20, 20, 0
        due(18, "of 10, -10", x.odds(0), 3);
        due(18, "of 10, -10: FASTER", x.odds(1), 3);
        x.pair(0, 0, 0, 0, 0, 0, false);
        due(18, "of 10, -10, 0", x.odds(0), 6);
        for (int i = 3; i < 16; i++) {
            x.pair(0, 1, 0, 0, 0, 0, false);
        }
        // of fifteen tens, fourteen as they are and one turned: no less is one turned or none; twice for the 0
        due(18, "of sixteen", x.odds(0), 2 * (1 + 15));
        due(18, "of sixteen: FASTER", x.odds(1), 2 * (32768 - 1));
    }

    private static void look() {
        FastWhy x = new FastWhy();
        due(19, "0", x.look(0), -2);
        due(19, "17", x.look(17), -2);
        due(19, "look", x.look(1), 1);
        due(19, "like", x.look(1), -2);
        for (int i = 2; i <= 8; i++) {
            due(19, "look", x.look(i), i);
        }
        due(19, "the ninth", x.look(16), -4);
        due(19, "the ninth, and BAD", x.look(8), -2);
        due(19, "the ninth, and BAD", x.look(17), -2);
        FastWhy y = new FastWhy();
        due(19, "16", y.look(16), 1);
        due(19, "below the last one", y.look(15), -2);
    }

    private static void sure() {
        FastWhy x = new FastWhy();
        x.look(3);
        due(20, "O", x.sure(1, 0), -2);
        due(20, "O", x.sure(1001, 0), -2);
        due(20, "SPAN", x.sure(2, -1), -2);
        due(20, "SPAN", x.sure(2, 10001), -2);
        due(20, "LOOKS stay", x.count(7), 1);
        due(20, "sure", x.sure(2, 0), 1);
        due(20, "LOOKS go", x.count(7), 0);
        due(20, "sure", x.sure(1000, 10000), 1);
        due(20, "a lower LOOK", x.look(1), 1);
    }

    private static void answer() {
        FastWhy x = oldAndNew();
        for (int i = 0; i < 4; i++) {
            x.pair(0, 1, 0, 0, 0, 0, false);
        }
        due(21, "without LOOKS", x.answer(), 0);
        x.sure(16, 0);
        x.look(4);
        due(21, "1 times 16 is no more than 16", x.answer(), 1);
        x.look(5);
        due(21, "two LOOKS cost more", x.answer(), 0);
        x.sure(17, 0);
        x.look(4);
        due(21, "1 times 17 is more; 10 is not LIKE", x.answer(), 4);
        x.sure(17, 9);
        x.look(4);
        due(21, "beyond the SPAN", x.answer(), 4);
        x.sure(17, 10);
        x.look(4);
        due(21, "within the SPAN", x.answer(), 3);
        x.sure(2, 0);
        x.look(5);
        due(21, "not come to it", x.answer(), 0);
        x.sure(2, 0);
        x.look(1);
        due(21, "by the first one: 1 times 2 is 2", x.answer(), 1);
        x.stand();
        due(21, "an empty one", x.answer(), 0);
        x.pair(1, 0, 0, 0, 0, 0, false);
        due(21, "FASTER", x.answer(), 2);
        for (int i = 0; i < 3; i++) {
            x.pair(0, 1, 0, 0, 0, 0, false);
        }
        due(21, "the first LOOK that says so", x.answer(), 2);
        x.sure(2, 0);
        x.look(2);
        // -10 and 10: no LOOK says so, MIDDLE of the first two 0
        due(21, "by its first PAIRS", x.answer(), 3);
        x.sure(3, 0);
        x.look(3);
        due(21, "MIDDLE of the first three 10", x.answer(), 4);
        below();
    }

    /** DIFFERENCES below 0: their MIDDLE is cut toward 0. */
    private static void below() {
        FastWhy x = oldAndNew();
        x.price(0, 4, 0);
        x.cache(0, 4, 4, 0);
        x.pair(0, 1, 0, 0, 0, 0, false);
        due(21, "a DIFFERENCE", x.difference(0), -1);
        x.pair(0, 0, 0, 0, 0, 0, false);
        due(21, "a DIFFERENCE", x.difference(1), 0);
        x.sure(1000, 0);
        x.look(2);
        due(21, "half of -1 is 0", x.answer(), 3);
    }

    // ---- why

    private static void step() {
        FastWhy x = timed(10, 12, 30, 31, 35);
        // ahead of 2: MIDDLE 11: 1 + 1, and 31: 1 + 4
        due(22, "BUILD", x.step(0, 4, 0, 0, 0, 0), 2);
        due(22, "COST", x.step(0, 4, 0, 0, 0, 1), 1 + 1 + 1 + 4);
        due(22, "COULD BE", x.step(0, 4, 0, 0, 0, 2), 4);
        // ahead of 3: MIDDLE 12: 2 + 18, and 33: 2 + 2; of 1: MIDDLE 30: 18 + 1 + 5; of 4: MIDDLE 21: 11 + 9 + 9 + 10
        due(22, "COULD BE with 16", x.step(0, 4, 0, 0, 16, 2), 4);
        due(22, "COULD BE with 17", x.step(0, 4, 0, 0, 17, 2), 4 + 8 + 2);
        due(22, "COULD BE with 31", x.step(0, 4, 0, 0, 31, 2), 4 + 8 + 2);
        due(22, "COULD BE with 32", x.step(0, 4, 0, 0, 32, 2), 4 + 8 + 2 + 16);
        due(22, "of two", x.step(3, 4, 0, 0, 0, 0), 4);
        due(22, "of one", x.step(3, 3, 0, 0, 0, 0), -1);
        due(22, "of none", x.step(0, 4, 1, 0, 0, 0), -1);
        due(22, "of none: COST", x.step(0, 4, 1, 0, 0, 1), -1);
        due(22, "of none: COULD BE", x.step(0, 4, 1, 0, 0, 2), -1);
        due(22, "from", x.step(-1, 4, 0, 0, 0, 0), -2);
        due(22, "from", x.step(5, 4, 0, 0, 0, 0), -2);
        due(22, "to", x.step(0, 5, 0, 0, 0, 0), -2);
        due(22, "to ahead of from", x.step(3, 2, 0, 0, 0, 0), -2);
        due(22, "machine", x.step(0, 4, 4, 0, 0, 0), -2);
        due(22, "setting", x.step(0, 4, 0, 1, 0, 0), -2);
        due(22, "slack", x.step(0, 4, 0, 0, -1, 0), -2);
        due(22, "slack", x.step(0, 4, 0, 0, 100001, 0), -2);
        due(22, "what", x.step(0, 4, 0, 0, 100000, 3), -2);
        due(22, "what", x.step(0, 4, 0, 0, 100000, -1), -2);
        FastWhy y = timed(5, 5, 5);
        due(22, "of like ones the first", y.step(0, 2, 0, 0, 0, 0), 1);
        y.build(0, 0);
        y.build(0, 0);
        y.run(4, 0, 0, 0, 0, false);
        due(22, "without a MIDDLE: not one of them", y.step(2, 4, 0, 0, 0, 0), 4);
    }

    private static void back() {
        // LINES of 1 each; CHANGES of LINES 0, 1, 2 to TIMES, SUM, GET cost 10, 6 and 20 more
        FastWhy x = rows(4);
        x.change(0, 0, 3, 0, 0, 0);
        x.change(0, 1, 1, 0, 0, 0);
        x.change(0, 2, 4, 0, 0, 0);
        x.change(0, 3, 7, 0, 0, 0);
        x.price(0, 3, 11);
        x.price(0, 1, 7);
        x.price(0, 4, 11);
        x.build(0, 0);
        x.build(0, 7);
        x.build(0, 1);
        x.program();
        x.build(1, 0);
        x.setting(0, 0, 0, 0);
        due(23, "old", x.plain(0, 0, 0, 5), 4);
        due(23, "new", x.plain(1, 0, 0, 5), 40);
        due(23, "span 0: how many", x.back(1, 0, 0, 0, 0, 0), 1);
        due(23, "span 0: all", x.back(1, 0, 0, 0, 0, 1), 7);
        due(23, "span 0: ALONE", x.back(1, 0, 0, 0, 0, 2), 0);
        due(23, "span 16: how many", x.back(1, 0, 0, 0, 16, 0), 1);
        due(23, "span 16: GET", x.back(1, 0, 0, 0, 16, 1), 4);
        due(23, "span 16: ALONE", x.back(1, 0, 0, 0, 16, 2), 4);
        due(23, "span 20: GET, or both others", x.back(1, 0, 0, 0, 20, 0), 2);
        due(23, "span 20: fewest", x.back(1, 0, 0, 0, 20, 1), 4);
        due(23, "span 10: GET and TIMES, or GET and SUM", x.back(1, 0, 0, 0, 10, 0), 2);
        due(23, "span 10: the least number", x.back(1, 0, 0, 0, 10, 1), 5);
        due(23, "span 30: each", x.back(1, 0, 0, 0, 30, 0), 3);
        due(23, "span 30: the first", x.back(1, 0, 0, 0, 30, 1), 1);
        due(23, "span 30: ALONE", x.back(1, 0, 0, 0, 30, 2), 7);
        due(23, "span 36: none needed", x.back(1, 0, 0, 0, 36, 0), 1);
        due(23, "span 36: the empty set", x.back(1, 0, 0, 0, 36, 1), 0);
        due(23, "span 36: ALONE", x.back(1, 0, 0, 0, 36, 2), 7);
        due(23, "a CHANGE of both stays", x.back(1, 2, 0, 0, 0, 1), 6);
        due(23, "unlike PROGRAMS", x.back(1, 3, 0, 0, 0, 0), -3);
        due(23, "new", x.back(4, 0, 0, 0, 0, 0), -2);
        due(23, "old", x.back(0, 4, 0, 0, 0, 0), -2);
        due(23, "machine", x.back(0, 0, 4, 0, 0, 0), -2);
        due(23, "setting", x.back(0, 0, 0, 1, 0, 0), -2);
        due(23, "span", x.back(0, 0, 0, 0, -1, 0), -2);
        due(23, "span", x.back(0, 0, 0, 0, 100001, 0), -2);
        due(23, "what", x.back(0, 0, 0, 0, 100000, 3), -2);
        due(23, "what, and NO", x.back(1, 3, 0, 0, 0, -1), -2);
        noWayBack();
    }

    private static void noWayBack() {
        // END at LINE 0 spares the loop; the old one has it, so nothing in the new one brings its TIME back
        FastWhy x = counter();
        x.change(0, 0, 7, 0, 0, 0);
        x.change(0, 2, 0, 0, 0, 0);
        x.build(0, 0);
        x.build(0, 1);
        x.build(0, 2);
        x.setting(5, 0, 0, 0);
        x.setting(1000, 0, 0, 0);
        due(23, "no set: how many", x.back(0, 1, 0, 0, 0, 0), 0);
        due(23, "no set: the one told", x.back(0, 1, 0, 0, 0, 1), -1);
        due(23, "no set: ALONE", x.back(0, 1, 0, 0, 0, 2), 0);
        due(23, "the old one is VOID", x.back(1, 0, 0, 1, 0, 0), -3);
        due(23, "the old one is VOID, and BAD", x.back(1, 0, 0, 1, 0, 3), -2);
        due(23, "a VOID set never does", x.back(2, 1, 0, 1, 100000, 0), 1);
        due(23, "a VOID set never does", x.back(2, 1, 0, 1, 100000, 2), 0);
        due(23, "a VOID new one", x.back(0, 1, 0, 1, 100000, 0), 0);
    }

    private static void with() {
        FastWhy x = counter();
        x.build(0, 0);
        x.setting(1, 0, 0, 0);
        x.setting(2, 0, 0, 0);
        x.setting(1000, 0, 0, 0);
        x.run(0, 0, 0, 0, 0, false);
        due(24, "one", x.with(0, 0), 0);
        x.run(0, 0, 1, 0, 0, false);
        x.run(0, 0, 2, 0, 0, false);
        x.forge(0, 100);
        x.forge(1, 10000000);
        x.keep(0, true);
        // STEPS 3 and 5
        due(24, "STEPS", x.with(0, 0), 2L * (300 + 50000000) - 8L * 10000100);
        due(24, "GETS and PUTS", x.with(0, 1), 0);
        due(24, "LEAPS", x.with(0, 3), 2L * (100 + 20000000) - 3L * 10000100);
        due(24, "another MACHINE", x.with(1, 0), 0);
        due(24, "counter", x.with(0, 5), -2000000000000000000L);
        due(24, "counter", x.with(0, -1), -2000000000000000000L);
        due(24, "machine", x.with(4, 0), -2000000000000000000L);
        due(24, "machine", x.with(-1, 0), -2000000000000000000L);
    }

    private static void keep() {
        FastWhy x = timed(5);
        due(25, "run", x.keep(1, true), -2);
        due(25, "run", x.keep(-1, true), -2);
        due(25, "it is so", x.keep(0, false), -3);
        due(25, "keep", x.keep(0, true), 1);
        due(25, "it is so", x.keep(0, true), -3);
        due(25, "KEPT OUT", x.of(0, 13), 1);
        due(25, "keep", x.keep(0, false), 1);
        due(25, "not KEPT OUT", x.of(0, 13), 0);
    }

    private static void fit() {
        FastWhy x = counter();
        x.build(0, 0);
        for (int i = 0; i < 4; i++) {
            x.setting(i + 1, 0, 0, 0);
        }
        for (int what = 0; what <= 3; what++) {
            due(26, "without RUNS", x.fit(0, 0, 1, 2, what), 0);
        }
        due(26, "without RUNS: FARTHEST", x.fit(0, 0, 1, 2, 4), -1);
        for (int i = 0; i < 4; i++) {
            x.run(0, 0, i, 0, 0, false);
        }
        // STEPS 3, 5, 7, 9; LEAPS 1, 2, 3, 4; WRONG 0 (one LEAP, not taken), 2, 2, 2; TIME 3, 15, 17, 19
        due(26, "STEPS", x.fit(0, 0, 3, 4, 0), 1);
        due(26, "LEAPS", x.fit(0, 0, 3, 4, 1), 0);
        due(26, "WRONG", x.fit(0, 0, 3, 4, 2), 5);
        due(26, "sum", x.fit(0, 0, 3, 4, 3), 0);
        due(26, "FARTHEST, all alike", x.fit(0, 0, 3, 4, 4), 0);
        due(26, "in another order: WRONG", x.fit(0, 4, 0, 3, 0), 5);
        due(26, "in another order: STEPS", x.fit(0, 4, 0, 3, 1), 1);
        x.forge(2, 1000);
        due(26, "the sum", x.fit(0, 0, 3, 4, 3), 983);
        due(26, "FARTHEST", x.fit(0, 0, 3, 4, 4), 2);
        x.keep(2, true);
        due(26, "KEPT OUT", x.fit(0, 0, 3, 4, 3), 0);
        due(26, "KEPT OUT", x.fit(0, 0, 3, 4, 4), 0);
        // of GETS and MISSES there are none: like ones, the first by numbers
        due(26, "of like ones the first", x.fit(0, 1, 2, 0, 0), 0);
        due(26, "of like ones the first", x.fit(0, 1, 2, 0, 1), 0);
        due(26, "what", x.fit(0, 0, 1, 2, 5), -2);
        due(26, "what", x.fit(0, 0, 1, 2, -1), -2);
        due(26, "machine", x.fit(4, 0, 1, 2, 0), -2);
        due(26, "no COUNT", x.fit(0, 5, 1, 2, 0), -2);
        due(26, "no COUNT", x.fit(0, 0, -1, 2, 0), -2);
        due(26, "no COUNT", x.fit(0, 0, 1, 5, 0), -2);
        due(26, "like ones", x.fit(0, 1, 1, 2, 0), -2);
        due(26, "like ones", x.fit(0, 1, 2, 1, 0), -2);
        due(26, "like ones", x.fit(0, 2, 1, 1, 0), -2);
        FastWhy y = rows(1);
        y.build(0, 0);
        y.setting(0, 0, 0, 0);
        y.run(0, 0, 0, 0, 0, false);
        y.forge(0, 100);
        due(26, "12 at most", y.fit(0, 0, 1, 2, 0), 12);
        due(26, "12 at most", y.fit(0, 0, 1, 2, 3), 88);
    }

    private static void foretell() {
        FastWhy x = counter();
        x.build(0, 0);
        for (int i = 0; i < 4; i++) {
            x.setting(i + 1, 0, 0, 0);
        }
        x.setting(100, 0, 0, 0);
        x.setting(1000, 0, 0, 0);
        for (int i = 0; i < 4; i++) {
            x.run(0, 0, i, 0, 0, false);
        }
        due(27, "foretold", x.foretell(0, 0, 4, 0, 3, 4, 0), 211);
        due(27, "none KEPT OUT", x.foretell(0, 0, 4, 0, 3, 4, 1), FAR_NONE);
        due(27, "none KEPT OUT", x.foretell(0, 0, 4, 0, 3, 4, 2), FAR_NONE);
        x.run(0, 0, 3, 0, 0, false);
        x.run(0, 0, 3, 0, 0, false);
        x.run(0, 0, 5, 0, 0, false);
        x.forge(4, 19 - 4);
        x.forge(5, 19 + 30);
        x.keep(4, true);
        x.keep(5, true);
        x.keep(6, true);
        due(27, "foretold", x.foretell(0, 0, 4, 0, 3, 4, 0), 211);
        due(27, "lower", x.foretell(0, 0, 4, 0, 3, 4, 1), 207);
        due(27, "upper", x.foretell(0, 0, 4, 0, 3, 4, 2), 241);
        due(27, "a VOID one", x.foretell(0, 0, 5, 0, 3, 4, 0), FAR_NONE);
        due(27, "a VOID one", x.foretell(0, 0, 5, 0, 3, 4, 1), FAR_NONE);
        due(27, "another MACHINE: no RUNS", x.foretell(0, 1, 4, 0, 3, 4, 0), 0);
        due(27, "build", x.foretell(1, 0, 4, 0, 3, 4, 0), FAR_BAD);
        due(27, "machine", x.foretell(0, 4, 4, 0, 3, 4, 0), FAR_BAD);
        due(27, "setting", x.foretell(0, 0, 6, 0, 3, 4, 0), FAR_BAD);
        due(27, "no COUNT", x.foretell(0, 0, 4, 0, 3, 5, 0), FAR_BAD);
        due(27, "like ones", x.foretell(0, 0, 4, 0, 3, 3, 0), FAR_BAD);
        due(27, "what", x.foretell(0, 0, 4, 0, 3, 4, 3), FAR_BAD);
        due(27, "what, of a VOID one", x.foretell(0, 0, 5, 0, 3, 4, -1), FAR_BAD);
    }

    private static void seek() {
        FastWhy x = counter();
        x.build(0, 0);
        due(28, "no SETTINGS", x.seek(0, 0, 1000, 0), -1);
        due(28, "no SETTINGS", x.seek(0, 0, 1000, 1), 0);
        x.setting(3, 0, 0, 0);
        x.setting(2, 0, 0, 0);
        x.setting(2, 0, 0, 0);
        x.setting(1000, 0, 0, 0);
        x.setting(1, 0, 0, 0);
        // TIMES 17, 15, 15, VOID, 3
        due(28, "nothing for 16", x.seek(0, 0, 16, 0), -1);
        due(28, "nothing for 16", x.seek(0, 0, 16, 1), 0);
        due(28, "one for 17", x.seek(0, 0, 17, 0), 0);
        due(28, "one for 17", x.seek(0, 0, 17, 1), 1);
        due(28, "of like ones the first", x.seek(0, 0, 47, 0), 1);
        due(28, "three for 47", x.seek(0, 0, 2046, 1), 3);
        due(28, "VOID for 2000", x.seek(0, 0, 2047, 1), 4);
        due(28, "VOID is not best", x.seek(0, 0, 2047, 0), 1);
        due(28, "all", x.seek(0, 0, 2050, 0), 4);
        due(28, "all", x.seek(0, 0, 1000000, 1), 5);
        due(28, "nothing is kept", x.count(4), 0);
        due(28, "price", x.seek(0, 0, -1, 0), -2);
        due(28, "nothing for 0", x.seek(0, 0, 0, 1), 0);
        due(28, "price", x.seek(0, 0, 1000001, 0), -2);
        due(28, "build", x.seek(1, 0, 0, 0), -2);
        due(28, "machine", x.seek(0, 4, 0, 0), -2);
        due(28, "what", x.seek(0, 0, 0, 2), -2);
        due(28, "what", x.seek(0, 0, 0, -1), -2);
    }

    private static void write() {
        FastWhy x = new FastWhy();
        due(29, "below", x.write(-1), -2);
        due(29, "beyond", x.write(128), -2);
        due(29, "0", x.write(0), 1);
        due(29, "127", x.write(127), 2);
        for (int i = 3; i <= 40; i++) {
            due(29, "write", x.write(' '), i);
        }
        due(29, "the 41st", x.write(' '), -4);
        due(29, "the 41st, and BAD", x.write(128), -2);
    }

    private static void erase() {
        FastWhy x = text(new FastWhy(), "n>1");
        due(30, "erase", x.erase(), 3);
        due(30, "erase", x.erase(), 0);
        due(30, "count", x.count(8), 0);
    }

    private static void faultOf(String rules, int want) {
        due(31, "fault of " + rules, text(new FastWhy(), rules).fault(), want);
    }

    private static void fault() {
        faultOf("", 1);
        faultOf("   ", 31);
        String[] right = {"1", "123456", "n", "m", "l", "g", "p", "b", " ( 1 ) ", "!n", "-n", "!-!-n", "1--1", "1-!1",
            "1+2*3/4-5", "1<2", "1>2", "1=2", "1<2&3>4|5=6", "((((((((1))))))))", "(1)+(2)", "1 < 2", "(1<2)<3",
            "!(1|0)", "------------------------------1"};
        for (String rules : right) {
            faultOf(rules, -1);
        }
        faultOf("q", 1);
        faultOf("1 2", 21);
        faultOf("12 n", 31);
        faultOf("n m", 21);
        faultOf("1<2<3", 31);
        faultOf("1=2>3", 31);
        faultOf("1<=2", 21);
        faultOf("1||2", 21);
        faultOf("1&&2", 21);
        faultOf("*1", 1);
        faultOf("+1", 1);
        faultOf("1+", 21);
        faultOf("1+ ", 31);
        faultOf("1+*2", 21);
        faultOf("(1", 21);
        faultOf("(1 2", 31);
        faultOf("1)", 11);
        faultOf("()", 11);
        faultOf("!", 11);
        faultOf("1!", 11);
        faultOf("1(2)", 11);
        faultOf("1\t+2", 11);
        faultOf("N", 1);
        faultOf("1234567", 2);
        faultOf("  1234567+", 22);
        faultOf("n+12345678", 22);
        faultOf("n 1234567", 21);
        faultOf("123456 7", 71);
        faultOf("(((((((((", 83);
        faultOf("((((((((1(", 91);
        faultOf("((((((((-(", 93);
        faultOf("((((((((1)+(", 121);
        faultOf("((((((((1)+((", 123);
    }

    private static void rings(FastWhy x, String rules, int want) {
        due(32, "rung of " + rules, text(x, rules).rung(0, 0, 200), want);
    }

    private static void rung() {
        FastWhy x = timed(100, 150, 120);
        x.build(0, 0);
        x.build(0, 0);
        x.run(4, 0, 0, 0, 0, false);
        x.run(0, 0, 0, 0, 0, false);
        x.forge(3, 7);
        x.forge(4, 105);
        // BUILDS 0: 100 and 105, 1: 150, 2: 120, 3: none, 4: 7
        rings(x, "1", 1 + 2 + 4 + 16);
        rings(x, "0", 0);
        rings(x, "-1", 1 + 2 + 4 + 16);
        rings(x, "n=2", 1);
        rings(x, "m=102", 1);
        rings(x, "l=100", 1);
        rings(x, "g=105", 1);
        rings(x, "p=0", 1 + 16);
        rings(x, "p=102", 2);
        rings(x, "p=150", 4);
        rings(x, "b", 2 + 4 + 16);
        rings(x, "b=2|b=4", 4 + 16);
        rings(x, "b>0&b<4", 2 + 4);
        rings(x, "m>p", 1 + 2 + 16);
        rings(x, "!b", 1);
        rings(x, "(2|0)=1&b=1", 2);
        rings(x, "(2&3)=1&b=1", 2);
        rings(x, "!5=0&b=1", 2);
        rings(x, "!!5=1&b=1", 2);
        rings(x, "-!0=0-1&b=1", 2);
        rings(x, "!-1=0&b=1", 2);
        rings(x, "!-0=1&b=1", 2);
        rings(x, "2+3*4=14&b=1", 2);
        rings(x, "20/3*3=18&b=1", 2);
        rings(x, "9-3-2=4&b=1", 2);
        rings(x, "-7/2=-3&b=1", 2);
        rings(x, "7/0=0&b=1", 2);
        rings(x, "0|1&0", 0);
        rings(x, "1|0&0&b=1", 1 + 2 + 4 + 16);
        rings(x, "999999*999999=999998000001/1", -3);
        rings(x, "999999*999999>999999&b=1", 2);
        // 500000 to the third is 125 * 10^15; times 74 it is above 2^63 and wraps below 0
        rings(x, "500000*500000*500000*74<0&b=1", 2);
        rings(x, "500000*500000*500000*73>0&b=1", 2);
        rings(x, "1+", -3);
        due(32, "BAD, and a FAULT", x.rung(0, 1, 0), -2);
        due(32, "machine", x.rung(4, 0, 0), -2);
        due(32, "k", x.rung(0, 0, 201), -2);
        due(32, "k", x.rung(0, 0, -1), -2);
        text(x, "m=100");
        due(32, "AS OF RUN 4", x.rung(0, 0, 4), 1);
        due(32, "AS OF RUN 5", x.rung(0, 0, 5), 0);
        due(32, "AS OF RUN 0", x.rung(0, 0, 0), 0);
        due(32, "another MACHINE", text(x, "1").rung(1, 0, 200), 0);
    }

    // ---- records

    private static void forge() {
        FastWhy x = counter();
        x.build(0, 0);
        x.setting(3, 0, 0, 0);
        x.setting(1000, 0, 0, 0);
        x.run(0, 0, 0, 0, 0, false);
        x.run(0, 0, 1, 0, 0, false);
        due(33, "run", x.forge(2, 0), FAR_BAD);
        due(33, "run", x.forge(-1, 0), FAR_BAD);
        due(33, "a VOID one", x.forge(1, 0), FAR_BAD);
        due(33, "v", x.forge(0, -1), FAR_BAD);
        due(33, "v", x.forge(0, 10000001), FAR_BAD);
        due(33, "forge", x.forge(0, 10000000), 17);
        due(33, "forge", x.forge(0, 0), 10000000);
        due(33, "TIME", x.of(0, 5), 0);
    }

    private static void check() {
        FastWhy x = counter();
        x.build(0, 0);
        x.setting(3, 0, 0, 0);
        x.setting(1000, 0, 0, 0);
        x.noise(0, 3, 100, 2, true);
        x.run(0, 0, 1, 0, 0, false);
        x.run(0, 0, 0, 5, 4, false);
        x.run(0, 0, 0, 5, 4, true);
        x.run(0, 0, 0, 6, 5, false);
        due(34, "all are right", x.check(), -1);
        long ahead = x.digest();
        x.check();
        due(34, "it leaves nothing", x.digest(), ahead);
        x.forge(2, 1);
        due(34, "WARM ones are not looked at", x.check(), -1);
        int was = x.forge(3, 1);
        due(34, "one forged", x.check(), 3);
        x.forge(3, was);
        due(34, "as it was", x.check(), -1);
        x.price(0, 6, 2);
        due(34, "by MACHINES as they are now; a VOID one has no TIME", x.check(), 1);
        x.price(0, 6, 1);
        x.guess(0, 16, 5);
        due(34, "as many are WRONG", x.check(), -1);
        x.noise(0, 3, 100, 0, true);
        x.noise(0, 4, 100, 2, true);
        due(34, "another DRIFT", x.check(), 1);
    }

    private static void image() {
        FastWhy x = counter();
        due(35, "image", x.image(2), -2);
        due(35, "image", x.image(-1), -2);
        due(35, "image", x.image(1), 1);
        due(35, "nothing is kept at 0", x.from(0), -3);
        due(35, "again", x.image(1), 1);
    }

    private static void from() {
        FastWhy x = oldAndNew();
        due(36, "i", x.from(2), -2);
        due(36, "i", x.from(-1), -2);
        due(36, "none was kept", x.from(0), -3);
        fill(x, 1);
        long first = x.digest();
        x.image(0);
        fill(x, 2);
        long second = x.digest();
        x.image(1);
        due(36, "from 0", x.from(0), 1);
        due(36, "as it was", x.digest(), first);
        due(36, "an act's cost, too", x.price(2, 3, 9), 1);
        due(36, "from 1", x.from(1), 1);
        due(36, "as it was", x.digest(), second);
        due(36, "an act's cost, too", x.price(2, 3, 9), 2);
        due(36, "IMAGES stay", x.from(0), 1);
        due(36, "as it was", x.digest(), first);
        fill(x, 2);
        due(36, "gone the same way", x.digest(), second);
        due(36, "what was there is not changed by going on", x.from(0), 1);
        due(36, "as it was", x.digest(), first);
        lines();
    }

    private static void fill(FastWhy x, int k) {
        x.price(2, 3, k);
        x.cache(1, k, 2, 3);
        x.guess(1, k, 3);
        x.noise(1, k, 3, 1, true);
        x.run(1, 1, 0, k, k, false);
        x.run(1, 1, 0, k, k, true);
        x.keep(x.count(4) - 1, true);
        x.forge(0, k);
        x.pair(0, 1, 0, 0, k, 0, true);
        x.sure(k + 1, k);
        x.look(k);
        x.write('n');
        x.program();
        x.build(0, k - 1);
        x.setting(k, k, k, k);
    }

    /** LINES, CHANGES and SETTINGS are kept, too: what came in their stead does not stay. */
    private static void lines() {
        FastWhy x = new FastWhy();
        x.program();
        x.image(0);
        x.line(0, 7, 0, 0, 0);
        x.change(0, 0, 7, 0, 0, 0);
        x.setting(1, 0, 0, 0);
        x.from(0);
        due(36, "no LINE", x.change(0, 0, 7, 0, 0, 0), -2);
        due(36, "no CHANGE", x.build(0, 1), -2);
        due(36, "another LINE", x.line(0, 0, 0, 0, 0), 0);
        due(36, "another SETTING", x.setting(0, 0, 0, 0), 0);
        x.line(0, 6, 4, 0, 0);
        x.build(0, 0);
        due(36, "STEPS", x.plain(0, 0, 0, 0), 2);
        twoWays();
    }

    /** Two IMAGES with unlike LINES, CHANGES, BUILDS and SETTINGS under the same numbers. */
    private static void twoWays() {
        FastWhy x = new FastWhy();
        x.program();
        x.program();
        x.image(0);
        x.line(0, 6, 4, 39, 0);
        x.line(0, 7, 0, 0, 0);
        x.line(1, 0, 0, 0, 0);
        x.line(1, 7, 0, 0, 0);
        x.change(1, 0, 4, 0, 0, 0);
        x.build(1, 0);
        x.build(1, 1);
        x.build(0, 0);
        x.setting(1, 0, 0, 0);
        x.price(0, 0, 7);
        x.price(0, 7, 20);
        x.image(1);
        x.from(0);
        x.line(0, 0, 1, 1, 0);
        x.line(0, 6, 4, 3, 0);
        x.line(0, 0, 1, 1, 0);
        x.change(0, 2, 1, 1, 1, 1);
        x.build(0, 1);
        x.build(0, 0);
        x.setting(0, 0, 0, 0);
        x.price(0, 1, 30);
        x.image(0);
        for (int i = 0; i < 2; i++) {
            x.from(1);
            due(36, "SET, END", x.plain(0, 0, 0, 5), 7 + 20);
            due(36, "GET in SET's stead, END", x.plain(1, 0, 0, 5), 1 + 10 + 20);
            due(36, "LEAP, taken", x.plain(2, 0, 0, 5), 1 + 5);
            due(36, "a CHANGE of the PROGRAM", x.build(1, 1), 3);
            due(36, "no such LINE", x.change(0, 2, 7, 0, 0, 0), -2);
            x.from(0);
            due(36, "SET, LEAP not taken, SUM in SET's stead", x.plain(0, 0, 0, 5), 1 + 1 + 30);
            due(36, "SET, LEAP not taken, SET", x.plain(1, 0, 0, 5), 3);
            due(36, "a CHANGE of another PROGRAM", x.build(1, 1), -3);
            due(36, "such a LINE", x.change(0, 2, 7, 0, 0, 0), 1);
        }
    }

    private static void count() {
        FastWhy x = oldAndNew();
        x.program();
        x.line(1, 0, 1, 1, 0);
        x.line(1, 6, 1, 0, 0);
        x.build(1, 0);
        x.run(2, 0, 0, 0, 0, false);
        x.pair(0, 1, 0, 0, 0, 0, false);
        x.look(3);
        x.look(4);
        text(x, "n>12");
        int[] want = {2, 1, 3, 1, 3, 1, 1, 2, 4};
        for (int i = 0; i < want.length; i++) {
            due(37, "what " + i, x.count(i), want[i]);
        }
        due(37, "what", x.count(9), -2);
        due(37, "what", x.count(-1), -2);
    }

    private static void digest() {
        FastWhy x = oldAndNew();
        x.cache(0, 2, 1, 7);
        x.guess(3, 1, 7);
        x.cache(3, 1, 1, 7);
        x.guess(1, 2, 7);
        x.cache(2, 1, 1, 7);
        x.guess(2, 1, 7);
        x.cache(1, 1, 1, 7);
        x.pair(0, 1, 0, 0, -5, 6, true);
        x.look(3);
        x.sure(7, 8);
        x.look(2);
        text(x, "m");
        long[] all = {1, 1, 2, 1, 2, 0, 1, 1, 1,
            1, 1, 1, 0, 0, 8, 0, 1, 0, 0, -5, 6, 0, 0,
            1, 0, 0, 0, 0, 1, 0, 0, 0, 0, -5, 6, 1, 0,
            7, 2, 7, 8, 'm', 0, 0, 0, 1,
            0, -1, 0, 0, 0, 0, -1, 0, 0, -1, 0, -1, 0};
        long h = 349;
        for (long v : all) {
            h = 31 * h + v;
        }
        due(38, "digest", x.digest(), h);
    }
}
