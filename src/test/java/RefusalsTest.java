import java.util.ArrayList;
import java.util.List;

/**
 * What is refused, promise by promise, on both sides of each edge: the last number that is taken and the first that is
 * not; in which order; and that a refused call changes nothing.
 */
public final class RefusalsTest {
    private static final int BAD = -2, NO = -3, FULL = -4;
    private static final int FAR_NONE = -1000000000;
    private static final int FAR_BAD = -2000000000;
    private static final long WITH_BAD = -2000000000000000000L;
    private static int checked;
    private static int wrong;

    /** A call with one number left open. */
    interface ByNumber {
        long on(FastWhy x, int v);
    }

    public static void main(String[] args) {
        asking();
        changing();
        sources();
        linesAndChanges();
        machines();
        runs();
        pairs();
        why();
        records();
        lineRefused();
        changeRefused();
        buildRefused();
        countedRefused();
        pairRefused();
        lookRefused();
        backRefused();
        keptRefused();
        System.out.println(checked - wrong + " of " + checked + " refusals and their edges are as due");
        if (wrong != 0) {
            System.exit(1);
        }
    }

    // ---- how it is told

    private static void due(int promise, String what, boolean holds) {
        checked++;
        if (!holds) {
            wrong++;
            System.out.println("promise " + promise + ", " + what);
        }
    }

    private static void taken(int promise, String what, Twins.Made made, Twins.Call call, long want) {
        long got = call.on(made.make());
        due(promise, what + ": answered " + got + ", due is " + want, got == want);
    }

    private static void refused(int promise, String what, Twins.Made made, Twins.Call call, long want) {
        taken(promise, what, made, call, want);
        due(promise, what + ": refused, but something has changed", Twins.changesNothing(made, call));
    }

    private static boolean isRefusal(long answer) {
        return answer == BAD || answer == NO || answer == FULL || answer == FAR_BAD || answer == WITH_BAD;
    }

    /** A number is low .. high; another one is BAD. */
    private static void ranged(int promise, String what, Twins.Made made, int low, int high, long bad,
            ByNumber call) {
        for (int v : new int[] {low, high}) {
            long got = call.on(made.make(), v);
            due(promise, what + " " + v + ": is to be taken, answered " + got, !isRefusal(got));
        }
        for (int v : new int[] {low - 1, high + 1, Integer.MIN_VALUE, Integer.MAX_VALUE}) {
            refused(promise, what + " " + v, made, x -> call.on(x, v), bad);
        }
    }

    private static void ranged(int promise, String what, int low, int high, ByNumber call) {
        ranged(promise, what, Twins::some, low, high, BAD, call);
    }

    /** A number that is not looked at, or may be any int. */
    private static void any(int promise, String what, Twins.Made made, ByNumber call) {
        for (int v : new int[] {Integer.MIN_VALUE, -1001, -1, 0, 8, 40, 1001, Integer.MAX_VALUE}) {
            long got = call.on(made.make(), v);
            due(promise, what + " " + v + ": is to be taken, answered " + got, !isRefusal(got));
        }
    }

    // ---- what is asked changes nothing, what is changed is seen

    private static void asking() {
        List<Twins.Call> calls = new ArrayList<>();
        calls.add(x -> x.of(2, 5));
        calls.add(x -> x.plain(0, 1, 0, 5));
        calls.add(x -> x.plain(0, 0, 2, 5));
        calls.add(x -> x.figure(0, 0, 0, 200, 3));
        calls.add(x -> x.difference(1));
        calls.add(x -> x.difference(2));
        calls.add(x -> x.odds(1));
        calls.add(x -> x.answer());
        calls.add(x -> x.step(0, 2, 0, 0, 100000, 2));
        calls.add(x -> x.back(1, 0, 1, 0, 100000, 0));
        calls.add(x -> x.with(0, 0));
        calls.add(x -> x.fit(0, 0, 1, 2, 4));
        calls.add(x -> x.foretell(0, 1, 0, 0, 1, 2, 2));
        calls.add(x -> x.seek(0, 1, 1000000, 0));
        calls.add(x -> x.fault());
        calls.add(x -> x.rung(0, 0, 200));
        calls.add(x -> x.check());
        calls.add(x -> x.count(5));
        calls.add(x -> x.digest());
        for (int i = 0; i < calls.size(); i++) {
            due(0, "asking " + i + " has changed something", Twins.changesNothing(Twins::some, calls.get(i)));
        }
    }

    /** If one of these were not seen, nothing could be said of those that are refused. */
    private static void changing() {
        List<Twins.Call> calls = Twins.changes();
        calls.add(x -> x.image(0));
        calls.add(x -> x.image(1));
        calls.add(x -> x.from(0));
        for (int i = 0; i < calls.size(); i++) {
            due(0, "the change " + i + " is not seen", !Twins.changesNothing(Twins::some, calls.get(i)));
        }
    }

    // ---- BAD: a number is not as told

    private static void sources() {
        ranged(5, "PROGRAM", 0, 2, (x, v) -> x.build(v, 0));
        ranged(5, "CHANGES (bits) without a CHANGE", Twins::longPrograms, 0, 0, BAD, (x, v) -> x.build(0, v));
        taken(5, "the last bit of ten CHANGES, which is of PROGRAM 5", RefusalsTest::tenChanges, x -> x.build(5, 512), 0);
        refused(5, "the first bit of no CHANGE, ten being there", RefusalsTest::tenChanges, x -> x.build(0, 1024), BAD);
        refused(5, "all bits of CHANGES and the first of none", RefusalsTest::tenChanges, x -> x.build(0, 2047), BAD);
        taken(5, "all bits of CHANGES: no bit of no CHANGE", RefusalsTest::tenChanges, x -> x.build(0, 1023), NO);
        refused(5, "the first bit of no CHANGE, four being there", Twins::some, x -> x.build(0, 16), BAD);
        refused(5, "a bit of no CHANGE with one of a CHANGE", Twins::some, x -> x.build(0, 17), BAD);
        taken(5, "the last bit of a CHANGE", Twins::some, x -> x.build(0, 8), 3);
        refused(5, "bits below 0", Twins::some, x -> x.build(0, -1), BAD);
        refused(5, "bits below 0", Twins::some, x -> x.build(0, Integer.MIN_VALUE), BAD);
        refused(5, "all bits but that", Twins::some, x -> x.build(0, Integer.MAX_VALUE), BAD);
        ranged(6, "register 4", -1000, 1000, (x, v) -> x.setting(v, 0, 0, 0));
        ranged(6, "register 5", -1000, 1000, (x, v) -> x.setting(0, v, 0, 0));
        ranged(6, "register 6", -1000, 1000, (x, v) -> x.setting(0, 0, v, 0));
        ranged(6, "register 7", -1000, 1000, (x, v) -> x.setting(0, 0, 0, v));
    }

    private static FastWhy tenChanges() {
        FastWhy x = new FastWhy();
        for (int i = 0; i < 6; i++) {
            x.program();
        }
        x.line(0, 0, 0, 0, 0);
        x.line(5, 0, 0, 0, 0);
        for (int i = 0; i < 9; i++) {
            x.change(0, 0, 4, 0, 0, 0);
        }
        x.change(5, 0, 4, 0, 0, 0);
        x.setting(0, 0, 0, 0);
        return x;
    }

    private static FastWhy threePrograms() {
        FastWhy x = new FastWhy();
        for (int i = 0; i < 3; i++) {
            x.program();
            x.line(i, 0, 0, 0, 0);
        }
        return x;
    }

    private static FastWhy sixPrograms() {
        FastWhy x = new FastWhy();
        for (int i = 0; i < 6; i++) {
            x.program();
        }
        return x;
    }

    /** A LINE is told in the same way to line, of PROGRAM 2, and to change, of LINE 1 of PROGRAM 0. */
    private static void linesAndChanges() {
        ranged(3, "PROGRAM", RefusalsTest::threePrograms, 0, 2, BAD, (x, v) -> x.line(v, 0, 0, 0, 0));
        ranged(3, "PROGRAM of six", RefusalsTest::sixPrograms, 0, 5, BAD, (x, v) -> x.line(v, 0, 0, 0, 0));
        refused(3, "no PROGRAM is there", FastWhy::new, x -> x.line(0, 0, 0, 0, 0), BAD);
        ranged(4, "PROGRAM", 0, 2, (x, v) -> x.change(v, 0, 0, 0, 0, 0));
        refused(4, "no PROGRAM is there", FastWhy::new, x -> x.change(0, 0, 0, 0, 0, 0), BAD);
        refused(4, "a PROGRAM without LINES", RefusalsTest::sixPrograms, x -> x.change(0, 0, 0, 0, 0, 0), BAD);
        ranged(4, "LINE of nine", 0, 8, (x, v) -> x.change(0, v, 0, 0, 0, 0));
        ranged(4, "LINE of one", 0, 0, (x, v) -> x.change(1, v, 0, 0, 0, 0));
        ranged(4, "LINE of forty", Twins::longPrograms, 0, 39, BAD, (x, v) -> x.change(0, v, 0, 0, 0, 0));
        told("act", 0, 7, (x, v) -> x.line(2, v, 0, 0, 0), (x, v) -> x.change(0, 1, v, 0, 0, 0));
        for (int act = 0; act <= 7; act++) {
            lineOf(act);
        }
    }

    private static void lineOf(int act) {
        String of = " of act " + act;
        ByNumber a = (x, v) -> x.line(2, act, v, 0, 0);
        ByNumber b = (x, v) -> x.line(2, act, 0, v, 0);
        ByNumber c = (x, v) -> x.line(2, act, 0, 0, v);
        ByNumber changedA = (x, v) -> x.change(0, 1, act, v, 0, 0);
        ByNumber changedB = (x, v) -> x.change(0, 1, act, 0, v, 0);
        ByNumber changedC = (x, v) -> x.change(0, 1, act, 0, 0, v);
        if (act == 7) {
            notLookedAt("a" + of, a, changedA);
            notLookedAt("b" + of, b, changedB);
        } else {
            told("a" + of, 0, 7, a, changedA);
            told("b" + of, act == 0 ? -1000 : 0, act == 0 ? 1000 : act == 6 ? 39 : 7, b, changedB);
        }
        if (act >= 1 && act <= 3) {
            told("c" + of, 0, 7, c, changedC);
        } else {
            notLookedAt("c" + of, c, changedC);
        }
    }

    private static void told(String what, int low, int high, ByNumber line, ByNumber change) {
        ranged(3, what, low, high, line);
        ranged(4, what, low, high, change);
    }

    private static void notLookedAt(String what, ByNumber line, ByNumber change) {
        any(3, what, Twins::some, line);
        any(4, what, Twins::some, change);
    }

    private static void machines() {
        ranged(7, "MACHINE", 0, 3, (x, v) -> x.price(v, 0, 3));
        ranged(7, "act", 0, 7, (x, v) -> x.price(1, v, 3));
        ranged(7, "cost", 0, 50, (x, v) -> x.price(1, 2, v));
        ranged(8, "MACHINE", 0, 3, (x, v) -> x.cache(v, 9, 3, 3));
        ranged(8, "L", 1, 16, (x, v) -> x.cache(1, v, 3, 3));
        ranged(8, "W", 1, 8, (x, v) -> x.cache(1, 9, v, 3));
        ranged(8, "MISS", 0, 200, (x, v) -> x.cache(1, 9, 3, v));
        ranged(9, "MACHINE", 0, 3, (x, v) -> x.guess(v, 9, 3));
        ranged(9, "GUESSES", 1, 16, (x, v) -> x.guess(1, v, 3));
        ranged(9, "WRONG", 0, 100, (x, v) -> x.guess(1, 9, v));
        ranged(10, "MACHINE", 0, 3, (x, v) -> x.noise(v, 9, 9, 1, false));
        ranged(10, "DRIFT", 0, 20, (x, v) -> x.noise(1, v, 9, 1, false));
        ranged(10, "BURST", 0, 1000, (x, v) -> x.noise(1, 9, v, 1, false));
        ranged(10, "one of n", 0, 100, (x, v) -> x.noise(1, 9, 9, v, false));
    }

    private static void runs() {
        ranged(11, "BUILD", 0, 2, (x, v) -> x.run(v, 0, 0, 0, 0, false));
        ranged(11, "MACHINE", 0, 3, (x, v) -> x.run(0, v, 0, 0, 0, false));
        ranged(11, "SETTING", 0, 2, (x, v) -> x.run(0, 0, v, 0, 0, true));
        ranged(11, "HOUR", 0, 23, (x, v) -> x.run(0, 0, 0, 0, v, false));
        any(11, "LOT", Twins::some, (x, v) -> x.run(0, 1, 0, v, 0, false));
        ranged(12, "RUN", Twins::some, 0, 7, FAR_BAD, (x, v) -> x.of(v, 0));
        ranged(12, "RUN of 200", () -> Twins.runs(200), 0, 199, FAR_BAD, (x, v) -> x.of(v, 0));
        ranged(12, "what", Twins::some, 0, 13, FAR_BAD, (x, v) -> x.of(2, v));
        refused(12, "no RUN is there", FastWhy::new, x -> x.of(0, 0), FAR_BAD);
        ranged(13, "BUILD", 0, 2, (x, v) -> x.plain(v, 0, 0, 0));
        ranged(13, "MACHINE", 0, 3, (x, v) -> x.plain(0, v, 0, 0));
        ranged(13, "SETTING", 0, 2, (x, v) -> x.plain(0, 0, v, 0));
        ranged(13, "what", 0, 5, (x, v) -> x.plain(0, 0, 0, v));
        ranged(14, "BUILD", 0, 2, (x, v) -> x.figure(v, 0, 0, 200, 0));
        ranged(14, "MACHINE", 0, 3, (x, v) -> x.figure(0, v, 0, 200, 0));
        ranged(14, "SETTING", 0, 2, (x, v) -> x.figure(0, 0, v, 200, 0));
        ranged(14, "k", 0, 200, (x, v) -> x.figure(0, 0, 0, v, 0));
        ranged(14, "what", 0, 3, (x, v) -> x.figure(0, 0, 0, 200, v));
        refused(11, "no BUILD is there", FastWhy::new, x -> x.run(0, 0, 0, 0, 0, false), BAD);
        refused(11, "no SETTING is there", RefusalsTest::builtAlone, x -> x.run(0, 0, 0, 0, 0, false), BAD);
        refused(13, "no BUILD is there", FastWhy::new, x -> x.plain(0, 0, 0, 0), BAD);
        refused(13, "no SETTING is there", RefusalsTest::builtAlone, x -> x.plain(0, 0, 0, 0), BAD);
        refused(14, "no BUILD is there", FastWhy::new, x -> x.figure(0, 0, 0, 0, 0), BAD);
        refused(14, "no SETTING is there", RefusalsTest::builtAlone, x -> x.figure(0, 0, 0, 0, 0), BAD);
        ranged(11, "BUILD of 24", RefusalsTest::manyBuilds, 0, 23, BAD, (x, v) -> x.run(v, 0, 0, 0, 0, false));
        ranged(11, "SETTING of 8", RefusalsTest::manyBuilds, 0, 7, BAD, (x, v) -> x.run(0, 0, v, 0, 0, false));
    }

    private static FastWhy builtAlone() {
        FastWhy x = new FastWhy();
        x.program();
        x.build(0, 0);
        return x;
    }

    private static FastWhy manyBuilds() {
        FastWhy x = new FastWhy();
        x.program();
        for (int i = 0; i < 24; i++) {
            x.build(0, 0);
        }
        for (int i = 0; i < 8; i++) {
            x.setting(0, 0, 0, 0);
        }
        return x;
    }

    private static void pairs() {
        ranged(15, "old BUILD", 0, 2, (x, v) -> x.pair(v, 1, 0, 0, 0, 0, false));
        ranged(15, "new BUILD", 0, 2, (x, v) -> x.pair(1, v, 0, 0, 0, 0, false));
        ranged(15, "MACHINE", 0, 3, (x, v) -> x.pair(0, 1, v, 0, 0, 0, true));
        ranged(15, "SETTING", 0, 2, (x, v) -> x.pair(0, 1, 0, v, 0, 0, false));
        ranged(15, "HOUR", 0, 23, (x, v) -> x.pair(0, 1, 0, 0, 0, v, false));
        any(15, "LOT", Twins::some, (x, v) -> x.pair(0, 1, 1, 0, v, 0, false));
        refused(15, "no BUILD is there", FastWhy::new, x -> x.pair(0, 0, 0, 0, 0, 0, false), BAD);
        refused(15, "no SETTING is there", RefusalsTest::builtAlone, x -> x.pair(0, 0, 0, 0, 0, 0, false), BAD);
        refused(16, "below 0", Twins::some, x -> x.difference(-1), FAR_BAD);
        refused(16, "far below 0", Twins::some, x -> x.difference(Integer.MIN_VALUE), FAR_BAD);
        for (int i : new int[] {2, 15, 16, Integer.MAX_VALUE}) {
            taken(16, "not so many as " + i, Twins::some, x -> x.difference(i), FAR_NONE);
        }
        ranged(18, "what", 0, 1, (x, v) -> x.odds(v));
        ranged(19, "the first LOOK", FastWhy::new, 1, 16, BAD, (x, v) -> x.look(v));
        ranged(19, "a LOOK above 3", 4, 16, (x, v) -> x.look(v));
        ranged(20, "O", 2, 1000, (x, v) -> x.sure(v, 9));
        ranged(20, "SPAN", 0, 10000, (x, v) -> x.sure(9, v));
    }

    private static void why() {
        ranged(22, "from", 0, 2, (x, v) -> x.step(v, 2, 0, 0, 0, 0));
        ranged(22, "to", 0, 2, (x, v) -> x.step(0, v, 0, 0, 0, 0));
        ranged(22, "MACHINE", 0, 3, (x, v) -> x.step(0, 2, v, 0, 0, 0));
        ranged(22, "SETTING", 0, 2, (x, v) -> x.step(0, 2, 0, v, 0, 0));
        ranged(22, "SLACK", 0, 100000, (x, v) -> x.step(0, 2, 0, 0, v, 2));
        ranged(22, "what", 0, 2, (x, v) -> x.step(0, 2, 0, 0, 0, v));
        back("new BUILD", 0, 1, (x, v) -> x.back(v, 0, 0, 0, 0, 0));
        back("old BUILD", 0, 1, (x, v) -> x.back(0, v, 0, 0, 0, 0));
        back("MACHINE", 0, 3, (x, v) -> x.back(1, 0, v, 0, 0, 0));
        back("SETTING", 0, 0, (x, v) -> x.back(1, 0, 0, v, 0, 0));
        back("SPAN", 0, 100000, (x, v) -> x.back(1, 0, 0, 0, v, 0));
        back("what", 0, 2, (x, v) -> x.back(1, 0, 0, 0, 0, v));
        ranged(24, "MACHINE", Twins::some, 0, 3, WITH_BAD, (x, v) -> x.with(v, 0));
        ranged(24, "COUNT", Twins::some, 0, 4, WITH_BAD, (x, v) -> x.with(0, v));
        ranged(25, "RUN", 0, 7, (x, v) -> x.keep(v, true));
        ranged(26, "MACHINE", 0, 3, (x, v) -> x.fit(v, 0, 1, 2, 0));
        ranged(26, "first COUNT", 0, 4, (x, v) -> x.fit(0, v, 1, 2, 0));
        ranged(26, "second COUNT", 0, 4, (x, v) -> x.fit(0, 1, v, 2, 0));
        ranged(26, "third COUNT", 0, 4, (x, v) -> x.fit(0, 1, 2, v, 0));
        ranged(26, "what", 0, 4, (x, v) -> x.fit(0, 0, 1, 2, v));
        foretold("BUILD", 0, 2, (x, v) -> x.foretell(v, 0, 0, 0, 1, 2, 0));
        foretold("MACHINE", 0, 3, (x, v) -> x.foretell(0, v, 0, 0, 1, 2, 0));
        foretold("SETTING", 0, 2, (x, v) -> x.foretell(0, 0, v, 0, 1, 2, 0));
        foretold("first COUNT", 0, 4, (x, v) -> x.foretell(0, 0, 0, v, 1, 2, 0));
        foretold("second COUNT", 0, 4, (x, v) -> x.foretell(0, 0, 0, 1, v, 2, 0));
        foretold("third COUNT", 0, 4, (x, v) -> x.foretell(0, 0, 0, 1, 2, v, 0));
        foretold("what", 0, 2, (x, v) -> x.foretell(0, 0, 0, 0, 1, 2, v));
        int[][] like = {{1, 1, 2}, {1, 2, 1}, {2, 1, 1}, {3, 3, 3}};
        for (int[] c : like) {
            refused(26, "COUNTS are unlike", Twins::some, x -> x.fit(0, c[0], c[1], c[2], 0), BAD);
            refused(27, "COUNTS are unlike", Twins::some, x -> x.foretell(0, 0, 0, c[0], c[1], c[2], 0), FAR_BAD);
        }
        ranged(28, "BUILD", 0, 2, (x, v) -> x.seek(v, 0, 1000, 0));
        ranged(28, "MACHINE", 0, 3, (x, v) -> x.seek(0, v, 1000, 0));
        ranged(28, "price", 0, 1000000, (x, v) -> x.seek(0, 0, v, 0));
        ranged(28, "what", 0, 1, (x, v) -> x.seek(0, 0, 1000, v));
        ranged(29, "character", 0, 127, (x, v) -> x.write(v));
        ranged(32, "MACHINE", 0, 3, (x, v) -> x.rung(v, 0, 200));
        ranged(32, "SETTING", 0, 2, (x, v) -> x.rung(0, v, 200));
        ranged(32, "k", 0, 200, (x, v) -> x.rung(0, 0, v));
        nothingThere();
    }

    private static void back(String what, int low, int high, ByNumber call) {
        ranged(23, what, () -> Twins.runs(2), low, high, BAD, call);
    }

    private static void foretold(String what, int low, int high, ByNumber call) {
        ranged(27, what, Twins::some, low, high, FAR_BAD, call);
    }

    private static void nothingThere() {
        refused(22, "no BUILD is there", FastWhy::new, x -> x.step(0, 0, 0, 0, 0, 0), BAD);
        refused(22, "no SETTING is there", RefusalsTest::builtAlone, x -> x.step(0, 0, 0, 0, 0, 0), BAD);
        refused(22, "from above to", Twins::some, x -> x.step(2, 1, 0, 0, 0, 0), BAD);
        refused(23, "no BUILD is there", FastWhy::new, x -> x.back(0, 0, 0, 0, 0, 0), BAD);
        refused(23, "no SETTING is there", RefusalsTest::builtAlone, x -> x.back(0, 0, 0, 0, 0, 0), BAD);
        refused(25, "no RUN is there", FastWhy::new, x -> x.keep(0, true), BAD);
        refused(27, "no BUILD is there", FastWhy::new, x -> x.foretell(0, 0, 0, 0, 1, 2, 0), FAR_BAD);
        refused(27, "no SETTING is there", RefusalsTest::builtAlone, x -> x.foretell(0, 0, 0, 0, 1, 2, 0), FAR_BAD);
        refused(28, "no BUILD is there", FastWhy::new, x -> x.seek(0, 0, 0, 0), BAD);
        refused(32, "no SETTING is there", () -> Twins.written(builtAlone(), "1"), x -> x.rung(0, 0, 0), BAD);
    }

    private static void records() {
        ranged(33, "RUN", Twins::some, 0, 7, FAR_BAD, (x, v) -> x.forge(v, 1));
        ranged(33, "v", Twins::some, 0, 10000000, FAR_BAD, (x, v) -> x.forge(0, v));
        refused(33, "no RUN is there", FastWhy::new, x -> x.forge(0, 1), FAR_BAD);
        refused(33, "a VOID one", Twins::some, x -> x.forge(2, 1), FAR_BAD);
        refused(33, "a VOID one, with a number not as told", Twins::some, x -> x.forge(2, -1), FAR_BAD);
        taken(33, "the one behind it", Twins::some, x -> x.forge(3, 1), 77);
        ranged(35, "IMAGE", 0, 1, (x, v) -> x.image(v));
        ranged(36, "IMAGE", RefusalsTest::bothImages, 0, 1, BAD, (x, v) -> x.from(v));
        ranged(37, "what", 0, 8, (x, v) -> x.count(v));
    }

    private static FastWhy bothImages() {
        FastWhy x = Twins.some();
        x.image(1);
        x.stand();
        return x;
    }

    // ---- NO, FULL, and the first of BAD, NO, FULL

    private static void lineRefused() {
        Twins.Made longOnes = Twins::longPrograms;
        taken(3, "the 40th LINE", longOnes, x -> x.change(0, 39, 7, 0, 0, 0), 0);
        refused(3, "the 41st LINE: FULL", longOnes, x -> x.line(0, 0, 0, 0, 0), FULL);
        refused(3, "the 41st of one with a BUILD: NO ahead of FULL", longOnes, x -> x.line(1, 0, 0, 0, 0), NO);
        refused(3, "BAD ahead of FULL", longOnes, x -> x.line(0, 8, 0, 0, 0), BAD);
        refused(3, "BAD ahead of NO and FULL", longOnes, x -> x.line(1, 0, 0, 1001, 0), BAD);
        refused(3, "a BUILD of it is there: NO", Twins::some, x -> x.line(1, 0, 0, 0, 0), NO);
        refused(3, "BAD ahead of NO", Twins::some, x -> x.line(1, 1, 0, 0, 8), BAD);
        taken(3, "a BUILD of it is not there", Twins::some, x -> x.line(2, 0, 0, 0, 0), 1);
        taken(3, "CHANGES of it are there, no BUILD", RefusalsTest::changedAlone, x -> x.line(0, 0, 0, 0, 0), 1);
        FastWhy x = new FastWhy();
        x.program();
        for (int i = 0; i < 40; i++) {
            int number = i;
            due(3, "LINE " + i + " has its number", x.line(0, 0, 0, 0, 0) == number);
        }
        due(3, "behind LINE 39: FULL", x.line(0, 0, 0, 0, 0) == FULL);
    }

    private static FastWhy changedAlone() {
        FastWhy x = new FastWhy();
        x.program();
        x.line(0, 0, 0, 0, 0);
        x.change(0, 0, 7, 0, 0, 0);
        return x;
    }

    private static FastWhy programs(int many) {
        FastWhy x = new FastWhy();
        for (int i = 0; i < many; i++) {
            x.program();
        }
        return x;
    }

    private static FastWhy changes(int many) {
        FastWhy x = new FastWhy();
        x.program();
        x.line(0, 0, 0, 0, 0);
        for (int i = 0; i < many; i++) {
            x.change(0, 0, 7, 0, 0, 0);
        }
        x.setting(0, 0, 0, 0);
        return x;
    }

    private static void changeRefused() {
        taken(2, "the sixth PROGRAM", () -> programs(5), x -> x.program(), 5);
        refused(2, "the seventh PROGRAM: FULL", () -> programs(6), x -> x.program(), FULL);
        refused(2, "FULL, all else being full, too", Twins::full, x -> x.program(), FULL);
        taken(4, "the tenth CHANGE", () -> changes(9), x -> x.change(0, 0, 7, 0, 0, 0), 9);
        refused(4, "the eleventh CHANGE: FULL", () -> changes(10), x -> x.change(0, 0, 7, 0, 0, 0), FULL);
        refused(4, "BAD ahead of FULL: LINE", () -> changes(10), x -> x.change(0, 1, 7, 0, 0, 0), BAD);
        refused(4, "BAD ahead of FULL: PROGRAM", () -> changes(10), x -> x.change(1, 0, 7, 0, 0, 0), BAD);
        refused(4, "BAD ahead of FULL: act", () -> changes(10), x -> x.change(0, 0, 8, 0, 0, 0), BAD);
        taken(4, "a BUILD of it is there: no matter", Twins::some, x -> x.change(0, 8, 0, 0, 0, 0), 4);
    }

    /** CHANGES 0, 1 and 3 are of PROGRAM 0, of LINES 7, 2 and 7; CHANGE 2 is of PROGRAM 1. */
    private static void buildRefused() {
        refused(5, "a CHANGE of another PROGRAM: NO", Twins::some, x -> x.build(0, 4), NO);
        refused(5, "one of another among its own: NO", Twins::some, x -> x.build(0, 5), NO);
        refused(5, "a CHANGE of another PROGRAM: NO", Twins::some, x -> x.build(1, 1), NO);
        refused(5, "a PROGRAM without CHANGES: NO", Twins::some, x -> x.build(2, 4), NO);
        refused(5, "two of one LINE: NO", Twins::some, x -> x.build(0, 9), NO);
        refused(5, "two of one LINE among three: NO", Twins::some, x -> x.build(0, 11), NO);
        taken(5, "two of unlike LINES", Twins::some, x -> x.build(0, 3), 3);
        taken(5, "two of unlike LINES", Twins::some, x -> x.build(0, 10), 3);
        taken(5, "its own", Twins::some, x -> x.build(1, 4), 3);
        refused(5, "BAD ahead of NO", Twins::some, x -> x.build(0, 16 + 9), BAD);
        refused(5, "BAD ahead of NO", Twins::some, x -> x.build(3, 9), BAD);
        taken(5, "the 24th BUILD", () -> builds(23), x -> x.build(0, 0), 23);
        refused(5, "the 25th BUILD: FULL", () -> builds(24), x -> x.build(0, 0), FULL);
        refused(5, "the 25th of another PROGRAM: FULL", () -> builds(24), x -> x.build(1, 0), FULL);
        refused(5, "NO ahead of FULL: two of one LINE", () -> builds(24), x -> x.build(0, 3), NO);
        refused(5, "NO ahead of FULL: another PROGRAM's", () -> builds(24), x -> x.build(1, 1), NO);
        refused(5, "BAD ahead of FULL", () -> builds(24), x -> x.build(0, 4), BAD);
        refused(5, "BAD ahead of NO and FULL", () -> builds(24), x -> x.build(0, 7), BAD);
        firstAndLastLine();
    }

    private static FastWhy builds(int many) {
        FastWhy x = changes(2);
        x.program();
        for (int i = 0; i < many; i++) {
            x.build(0, i % 3);
        }
        return x;
    }

    /** LINES 0, 31, 32 and 39: unlike ones, however far they are from one another. */
    private static void firstAndLastLine() {
        Twins.Made made = () -> {
            FastWhy x = Twins.longPrograms();
            for (int line : new int[] {0, 31, 32, 39, 7}) {
                x.change(0, line, 4, 0, 0, 0);
            }
            x.change(0, 39, 1, 0, 0, 0);
            return x;
        };
        taken(5, "no two of one LINE", made, x -> x.build(0, 31), 1);
        taken(5, "no two of one LINE", made, x -> x.build(0, 32 + 16 + 7), 1);
        refused(5, "two of LINE 39: NO", made, x -> x.build(0, 32 + 8), NO);
        taken(5, "all of it: each CHANGE is in the BUILD", made, x -> x.plain(x.build(0, 31), 0, 0, 1), 5);
    }

    private static FastWhy settings(int many) {
        FastWhy x = changes(0);
        for (int i = 1; i < many; i++) {
            x.setting(i, i, i, i);
        }
        return x;
    }

    private static void countedRefused() {
        taken(6, "the eighth SETTING", () -> settings(7), x -> x.setting(0, 0, 0, 0), 7);
        refused(6, "the ninth SETTING: FULL", () -> settings(8), x -> x.setting(0, 0, 0, 0), FULL);
        refused(6, "BAD ahead of FULL", () -> settings(8), x -> x.setting(0, 0, 0, -1001), BAD);
        taken(11, "the 200th RUN", () -> Twins.runs(199), x -> x.run(0, 0, 0, 0, 0, false), 199);
        refused(11, "the 201st RUN: FULL", () -> Twins.runs(200), x -> x.run(0, 0, 0, 0, 0, false), FULL);
        refused(11, "the 201st RUN, WARM: FULL", () -> Twins.runs(200), x -> x.run(1, 0, 0, 0, 0, true), FULL);
        refused(11, "the 201st RUN elsewhere: FULL", () -> Twins.runs(200), x -> x.run(0, 3, 0, 0, 0, false), FULL);
        refused(11, "BAD ahead of FULL", () -> Twins.runs(200), x -> x.run(0, 0, 0, 0, 24, false), BAD);
        taken(29, "the 40th character", () -> rules(39), x -> x.write(127), 40);
        refused(29, "the 41st character: FULL", () -> rules(40), x -> x.write('n'), FULL);
        refused(29, "BAD ahead of FULL", () -> rules(40), x -> x.write(128), BAD);
        refused(29, "BAD ahead of FULL", () -> rules(40), x -> x.write(-1), BAD);
        refused(11, "FULL, all else being full, too", Twins::full, x -> x.run(0, 0, 0, 0, 0, false), FULL);
        refused(29, "FULL, all else being full, too", Twins::full, x -> x.write('n'), FULL);
    }

    private static FastWhy rules(int many) {
        return Twins.written(new FastWhy(), "1+2+3+4+5+6+7+8+9+0+1+2+3+4+5+6+7+8+9+1+".substring(0, many));
    }

    /** PAIRS in THE SITTING as many as are told, RUNS in all as many as are told. */
    private static FastWhy sat(int pairs, int runs) {
        FastWhy x = Twins.runs(runs - 2 * pairs);
        for (int i = 0; i < pairs; i++) {
            x.pair(0, 1, 0, 0, i, 0, i % 2 == 0);
        }
        return x;
    }

    private static void pairRefused() {
        taken(15, "the 16th", () -> sat(15, 30), x -> x.pair(0, 1, 0, 0, 0, 0, false), 16);
        refused(15, "16 are in it: NO", () -> sat(16, 32), x -> x.pair(0, 1, 0, 0, 0, 0, false), NO);
        refused(15, "16 are in it, the new one first: NO", () -> sat(16, 32), x -> x.pair(0, 1, 0, 0, 0, 0, true), NO);
        refused(15, "16 are in it, RUNS for two are not there: NO", () -> sat(16, 199),
                x -> x.pair(0, 1, 0, 0, 0, 0, false), NO);
        refused(15, "BAD ahead of NO", () -> sat(16, 32), x -> x.pair(0, 2, 0, 0, 0, 0, false), BAD);
        refused(15, "BAD ahead of NO and FULL", () -> sat(16, 200), x -> x.pair(0, 1, 0, 0, 0, 24, false), BAD);
        taken(15, "RUNS for two are there, just", () -> Twins.runs(198), x -> x.pair(0, 1, 0, 0, 0, 0, false), 1);
        refused(15, "RUNS for one alone: FULL", () -> Twins.runs(199), x -> x.pair(0, 1, 0, 0, 0, 0, false), FULL);
        refused(15, "RUNS for none: FULL", () -> Twins.runs(200), x -> x.pair(0, 1, 0, 0, 0, 0, true), FULL);
        refused(15, "BAD ahead of FULL", () -> Twins.runs(199), x -> x.pair(-1, 1, 0, 0, 0, 0, false), BAD);
        taken(15, "it stood up: the first again", () -> sat(16, 32), x -> {
            x.stand();
            return x.pair(0, 1, 0, 0, 0, 0, false);
        }, 1);
    }

    private static FastWhy looks(int... all) {
        FastWhy x = new FastWhy();
        for (int pairs : all) {
            x.look(pairs);
        }
        return x;
    }

    private static void lookRefused() {
        taken(19, "the eighth", () -> looks(1, 2, 3, 4, 5, 6, 7), x -> x.look(8), 8);
        Twins.Made eight = () -> looks(1, 2, 3, 4, 5, 6, 7, 9);
        refused(19, "the ninth: FULL", eight, x -> x.look(10), FULL);
        refused(19, "the ninth: FULL", eight, x -> x.look(16), FULL);
        refused(19, "BAD ahead of FULL: the last one", eight, x -> x.look(9), BAD);
        refused(19, "BAD ahead of FULL: below the last one", eight, x -> x.look(8), BAD);
        refused(19, "BAD ahead of FULL: 17", eight, x -> x.look(17), BAD);
        refused(19, "BAD ahead of FULL: 0", eight, x -> x.look(0), BAD);
        refused(19, "like the last one: BAD", () -> looks(1), x -> x.look(1), BAD);
        taken(19, "above the last one, just", () -> looks(1), x -> x.look(2), 2);
        refused(19, "nothing is above 16: BAD", () -> looks(16), x -> x.look(16), BAD);
        refused(19, "nothing is above 16: BAD", () -> looks(16), x -> x.look(17), BAD);
        taken(19, "16 above 15", () -> looks(15), x -> x.look(16), 2);
        taken(20, "all LOOKS go: the first again", eight, x -> x.sure(20, 0) + x.look(1), 2);
        refused(20, "BAD: LOOKS stay", eight, x -> x.sure(1, 0), BAD);
        refused(20, "BAD: O stays, too", eight, x -> x.sure(7, 10001), BAD);
    }

    /** BUILDS 0 and 1 are of PROGRAM 0, BUILD 2 of PROGRAM 1; by SETTING 2 BUILDS 0 and 1 are VOID. */
    private static void backRefused() {
        refused(23, "unlike PROGRAMS: NO", Twins::some, x -> x.back(2, 0, 0, 0, 0, 0), NO);
        refused(23, "unlike PROGRAMS: NO", Twins::some, x -> x.back(0, 2, 0, 0, 100000, 2), NO);
        taken(23, "like PROGRAMS", Twins::some, x -> x.back(2, 2, 0, 0, 0, 0), 1);
        refused(23, "the old one is VOID: NO", Twins::some, x -> x.back(1, 0, 0, 2, 0, 0), NO);
        refused(23, "the old one is VOID: NO", Twins::some, x -> x.back(0, 0, 0, 2, 0, 1), NO);
        taken(23, "the old one is not VOID by another SETTING", Twins::some, x -> x.back(0, 0, 0, 1, 0, 1), 0);
        refused(23, "BAD ahead of NO: SPAN", Twins::some, x -> x.back(2, 0, 0, 0, 100001, 0), BAD);
        refused(23, "BAD ahead of NO: what", Twins::some, x -> x.back(1, 0, 0, 2, 0, 3), BAD);
    }

    private static void keptRefused() {
        refused(25, "it is KEPT OUT: NO", Twins::some, x -> x.keep(1, true), NO);
        refused(25, "it is not KEPT OUT: NO", Twins::some, x -> x.keep(0, false), NO);
        taken(25, "it is not KEPT OUT", Twins::some, x -> x.keep(0, true), 1);
        taken(25, "it is KEPT OUT", Twins::some, x -> x.keep(1, false), 1);
        taken(25, "a VOID one", Twins::some, x -> x.keep(2, true), 1);
        refused(25, "BAD, and no such RUN is KEPT OUT", Twins::some, x -> x.keep(8, false), BAD);
        refused(32, "FAULT: NO", () -> Twins.written(Twins.some(), "+"), x -> x.rung(0, 0, 200), NO);
        taken(32, "no FAULT", () -> Twins.written(Twins.some(), "+1"), x -> x.rung(0, 0, 200), 0);
        refused(32, "FAULT, of no RUN: NO", () -> Twins.written(Twins.some(), "+"), x -> x.rung(3, 0, 0), NO);
        refused(32, "BAD ahead of NO", () -> Twins.written(Twins.some(), "+"), x -> x.rung(0, 3, 200), BAD);
        refused(32, "empty RULES: NO", RefusalsTest::bothErased, x -> x.rung(0, 0, 200), NO);
        refused(36, "none was kept: NO", Twins::some, x -> x.from(1), NO);
        refused(36, "none was kept on a new object: NO", FastWhy::new, x -> x.from(0), NO);
        taken(36, "one was kept", Twins::some, x -> x.from(0), 1);
        refused(36, "BAD ahead of NO", FastWhy::new, x -> x.from(2), BAD);
        refused(36, "BAD ahead of NO", FastWhy::new, x -> x.from(-1), BAD);
        taken(36, "IMAGES are not in IMAGES: going on from one leaves the other", RefusalsTest::bothImages,
                x -> x.from(0) + x.from(1) + x.from(0), 3);
    }

    private static FastWhy bothErased() {
        FastWhy x = Twins.some();
        x.erase();
        return x;
    }
}
