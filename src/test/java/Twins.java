import java.util.ArrayList;
import java.util.List;

/**
 * Objects that are made twice in the same way, so that a call on one of them can be held against the other: whether
 * it has changed anything is seen from the answers of both to the same long list of calls.
 */
final class Twins {
    /** Makes the same object each time. */
    interface Made {
        FastWhy make();
    }

    interface Call {
        long on(FastWhy x);
    }

    private Twins() {
    }

    static boolean changesNothing(Made made, Call call) {
        FastWhy x = made.make();
        call.on(x);
        return asked(x).equals(asked(made.make()));
    }

    // ---- what is made

    /** Some of everything; nothing is full. IMAGE 0 is kept, IMAGE 1 is not. */
    static FastWhy some() {
        FastWhy x = new FastWhy();
        programs(x);
        x.change(0, 7, 3, 0, 1, 1);
        x.change(0, 2, 1, 2, 1, 1);
        x.change(1, 0, 7, 0, 0, 0);
        x.change(0, 7, 4, 0, 1, 0);
        x.build(0, 0);
        x.build(0, 3);
        x.build(1, 4);
        x.setting(2, 0, 1, 8);
        x.setting(1, 5, 0, -3);
        x.setting(1000, 1, 1, 1);
        x.price(1, 2, 9);
        x.cache(1, 2, 1, 7);
        x.guess(1, 3, 2);
        x.noise(1, 3, 50, 2, true);
        x.run(0, 0, 0, 5, 1, false);
        x.image(0);
        x.run(0, 1, 1, 6, 2, true);
        x.run(0, 0, 2, 7, 3, false);
        x.run(1, 0, 0, 8, 4, true);
        x.keep(1, true);
        x.forge(3, 77);
        x.pair(0, 1, 0, 0, 9, 3, false);
        x.pair(0, 1, 1, 1, 9, 3, true);
        x.sure(30, 40);
        x.look(1);
        x.look(3);
        written(x, "n>1");
        return x;
    }

    private static void programs(FastWhy x) {
        x.program();
        x.line(0, 0, 1, 1, 0);
        x.line(0, 2, 4, 4, 1);
        x.line(0, 4, 2, 5, 0);
        x.line(0, 5, 6, 7, 0);
        x.line(0, 6, 4, 1, 0);
        x.line(0, 4, 3, 7, 0);
        x.line(0, 6, 3, 8, 0);
        x.line(0, 1, 0, 0, 1);
        x.line(0, 7, 0, 0, 0);
        x.program();
        x.line(1, 0, 0, 0, 0);
        x.program();
        x.line(2, 0, 0, 0, 0);
    }

    /** As many as can be of everything but LINES. */
    static FastWhy full() {
        FastWhy x = new FastWhy();
        for (int i = 0; i < 6; i++) {
            x.program();
        }
        x.line(0, 0, 0, 0, 0);
        x.line(0, 0, 0, 0, 0);
        x.line(5, 0, 0, 0, 0);
        for (int i = 0; i < 10; i++) {
            x.change(i == 9 ? 5 : 0, i == 9 ? 0 : i % 2, 4, 0, 0, 0);
        }
        for (int i = 0; i < 24; i++) {
            x.build(0, i % 2);
        }
        for (int i = 0; i < 8; i++) {
            x.setting(i, 0, 0, 0);
        }
        for (int i = 0; i < 16; i++) {
            x.pair(0, 1, 0, i % 8, i, 0, i % 3 == 0);
        }
        for (int i = 32; i < 200; i++) {
            x.run(i % 24, i % 4, i % 8, i, 0, false);
        }
        for (int i = 1; i <= 8; i++) {
            x.look(i);
        }
        return written(x, "1+1+1+1+1+1+1+1+1+1+1+1+1+1+1+1+1+1+1+1 ");
    }

    /** PROGRAMS 0 and 1 of 40 LINES; a BUILD of PROGRAM 1 is there. */
    static FastWhy longPrograms() {
        FastWhy x = new FastWhy();
        x.program();
        x.program();
        for (int i = 0; i < 40; i++) {
            x.line(0, 0, 0, 0, 0);
            x.line(1, 0, 0, 0, 0);
        }
        x.build(1, 0);
        x.setting(0, 0, 0, 0);
        return x;
    }

    /** RUNS as many as are told, the last ones WARM, of a PROGRAM of one GET; nothing is in THE SITTING. */
    static FastWhy runs(int many) {
        FastWhy x = new FastWhy();
        x.program();
        x.line(0, 4, 0, 4, 0);
        x.change(0, 0, 0, 0, 0, 0);
        x.build(0, 0);
        x.build(0, 1);
        x.setting(0, 0, 0, 0);
        for (int i = 0; i < many; i++) {
            x.run(i % 2, 0, 0, i, 0, i > 100);
        }
        return x;
    }

    static FastWhy written(FastWhy x, String rules) {
        for (int i = 0; i < rules.length(); i++) {
            x.write(rules.charAt(i));
        }
        return x;
    }

    /** Each call that changes an object made by some(), each number of it by itself; IMAGES stay as they are. */
    static List<Call> changes() {
        List<Call> calls = new ArrayList<>();
        calls.add(x -> x.program());
        calls.add(x -> x.line(2, 0, 0, 0, 0));
        calls.add(x -> x.change(0, 0, 0, 1, 1, 0));
        calls.add(x -> x.build(0, 0));
        calls.add(x -> x.setting(0, 0, 0, 0));
        calls.add(x -> x.price(3, 7, 2));
        calls.add(x -> x.cache(1, 3, 1, 7));
        calls.add(x -> x.cache(1, 2, 2, 7));
        calls.add(x -> x.cache(1, 2, 1, 8));
        calls.add(x -> x.guess(1, 2, 2));
        calls.add(x -> x.guess(1, 3, 3));
        calls.add(x -> x.noise(1, 4, 50, 2, true));
        calls.add(x -> x.noise(1, 3, 51, 2, true));
        calls.add(x -> x.noise(1, 3, 50, 1, true));
        calls.add(x -> x.noise(1, 3, 50, 0, true));
        calls.add(x -> x.noise(1, 3, 50, 2, false));
        calls.add(x -> x.run(0, 0, 0, 0, 0, false));
        calls.add(x -> x.run(0, 1, 0, 0, 0, true));
        calls.add(x -> x.pair(0, 1, 0, 0, 0, 0, false));
        calls.add(x -> x.stand());
        calls.add(x -> x.stand() + x.pair(1, 0, 0, 0, 0, 0, false) + x.pair(1, 0, 0, 1, 0, 0, false));
        calls.add(x -> x.look(4));
        calls.add(x -> x.sure(30, 40));
        calls.add(x -> x.sure(31, 40) + x.look(1) + x.look(3));
        calls.add(x -> x.sure(30, 41) + x.look(1) + x.look(3));
        calls.add(x -> x.sure(30, 40) + x.look(2) + x.look(3));
        calls.add(x -> x.keep(0, true));
        calls.add(x -> x.keep(1, false));
        calls.add(x -> x.forge(0, 1));
        calls.add(x -> x.write('0'));
        calls.add(x -> x.erase());
        calls.add(x -> x.erase() + x.write('m') + x.write('<') + x.write('2'));
        return calls;
    }

    // ---- what they are asked

    /** All that can be seen of an object, and of what its IMAGES keep; it is not as it was behind this. */
    static List<Long> asked(FastWhy x) {
        List<Long> seen = new ArrayList<>();
        long before = x.digest();
        seen.add(before);
        told(x, seen);
        seen.add(x.digest() == before ? 1L : 0L);
        sources(x, seen);
        machines(x, seen);
        for (int i = 0; i < 2; i++) {
            seen.add((long) x.from(i));
            seen.add(x.digest());
            seen.add((long) x.price(1, 2, 9));
        }
        return seen;
    }

    private static void told(FastWhy x, List<Long> seen) {
        seen.add((long) x.check());
        seen.add((long) x.answer());
        seen.add((long) x.odds(0));
        seen.add((long) x.odds(1));
        seen.add((long) x.fault());
        int settings = x.count(3);
        for (int i = 0; i < settings; i++) {
            seen.add((long) x.plain(0, 0, i, 0));
            seen.add((long) x.plain(0, 1, i, 2));
        }
        int builds = x.count(2);
        for (int i = 0; i < builds && settings > 0; i++) {
            seen.add((long) x.plain(i, 1, i % settings, 5));
        }
    }

    /** How many LINES each PROGRAM has, whose LINE each CHANGE is of, and what comes of both. */
    private static void sources(FastWhy x, List<Long> seen) {
        int programs = x.count(0);
        int changes = x.count(1);
        for (int i = 0; i < programs; i++) {
            seen.add((long) x.line(i, 7, 0, 0, 0));
            seen.add((long) x.plain(x.build(i, 0), 0, 0, 5));
        }
        for (int i = 0; i < changes; i++) {
            int first = x.build(0, 1 << i);
            int second = x.build(1, 1 << i);
            seen.add((long) first);
            seen.add((long) second);
            seen.add((long) x.plain(Math.max(first, second), 0, 0, 5));
            seen.add((long) x.plain(Math.max(first, second), 0, 0, 1));
        }
    }

    /** What each MACHINE was told: by what a walk over cells, twice, takes there. */
    private static void machines(FastWhy x, List<Long> seen) {
        int program = x.program();
        int[][] walk = {{0, 1, 1, 0}, {4, 2, 0, 0}, {1, 0, 0, 1}, {2, 4, 4, 1}, {6, 4, 1, 0}, {0, 0, 0, 0},
            {2, 5, 5, 1}, {0, 4, 40, 0}, {6, 5, 1, 0}};
        for (int[] line : walk) {
            x.line(program, line[0], line[1], line[2], line[3]);
        }
        int build = x.build(program, 0);
        int setting = x.setting(40, 2, 0, 0);
        for (int machine = 0; machine < 4; machine++) {
            for (int what = 2; what <= 5; what++) {
                seen.add((long) x.plain(build, machine, setting, what));
            }
            for (int lot = 0; lot < 5; lot++) {
                int run = x.run(build, machine, setting, 1000 * lot + 7, lot % 2, lot == 0);
                seen.add((long) run);
                if (run >= 0) {
                    seen.add((long) x.of(run, 2));
                    seen.add((long) x.of(run, 5));
                }
            }
            for (int act = 0; act < 8; act++) {
                seen.add((long) x.price(machine, act, act));
            }
        }
        // what the last RUNS left in the CACHES tells where their PLACES were
        seen.add(x.digest());
    }
}
