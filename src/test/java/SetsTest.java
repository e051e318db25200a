/** Promises 21 to 27. */
public final class SetsTest {
    private static final Check CHECK = new Check();
    /** Its ARROWS: 0 to 0; 1 and 2 to 0, 1; 3 to 1. */
    private static final String INWARD = "x/4+1/8";
    /** Its ARROWS: 0 and 1 to 3; 2 to 3, and it LEAVES; 3 just LEAVES. */
    private static final String OUTWARD = "x/4+7/8";

    public static void main(String[] args) {
        put();
        join();
        many();
        core();
        reach();
        reachSurely();
        trap();
        refused();
        CHECK.end();
    }

    private static void put() {
        RoundMaps maps = Check.onLine("x", 0, 1024, 4);
        CHECK.is("21: put", maps.put(0, 2, true), 1);
        CHECK.is("21: put again", maps.put(0, 2, true), 1);
        CHECK.is("21: another", maps.put(0, 0, true), 2);
        CHECK.is("21: take out", maps.put(0, 2, false), 1);
        CHECK.is("21: take out none", maps.put(0, 3, false), 1);
        CHECK.is("21: the only one of another SET", maps.put(3, 3, true), 1);
        CHECK.is("21: take it out", maps.put(3, 3, false), 0);
        CHECK.is("21: take it out again", maps.put(3, 3, false), 0);
        CHECK.is("24: has", maps.has(0, 0), 1);
        CHECK.is("24: has not", maps.has(0, 2), 0);
        CHECK.is("24: another set has not", maps.has(1, 0), 0);
        int[] none = {-1, 4, Integer.MAX_VALUE, Integer.MIN_VALUE};
        for (int bad : none) {
            CHECK.is("21: no set " + bad, maps.put(bad, 0, true), -1);
            CHECK.is("21: no cell " + bad, maps.put(0, bad, true), -1);
            CHECK.is("24: no set " + bad, maps.has(bad, 0), -1);
            CHECK.is("24: no cell " + bad, maps.has(0, bad), -1);
            CHECK.is("23: no set " + bad, maps.many(bad), -1);
        }
        CHECK.set("21: nothing changed", maps, 0, 0);
    }

    private static void join() {
        int[][] due = {{0, 1}, {1}, {0, 1, 2}, {2}, {2, 3}};
        for (int what = 0; what < 5; what++) {
            RoundMaps maps = Check.onLine("x", 0, 1024, 4);
            Check.put(maps, 1, 0, 1);
            Check.put(maps, 3, 1, 2);
            CHECK.is("22: what " + what, maps.join(1, 3, what), due[what].length);
            CHECK.set("22: what " + what, maps, 3, due[what]);
            CHECK.set("22: s stays", maps, 1, 0, 1);
        }
        RoundMaps maps = Check.onLine("x", 0, 1024, 4);
        Check.put(maps, 2, 0, 3);
        for (int what = 0; what < 3; what++) {
            CHECK.is("22: with itself", maps.join(2, 2, what), 2);
        }
        CHECK.is("22: what -1", maps.join(2, 2, -1), -1);
        CHECK.is("22: what 5", maps.join(2, 2, 5), -1);
        CHECK.is("22: no s", maps.join(4, 2, 0), -1);
        CHECK.is("22: no t", maps.join(2, -1, 0), -1);
        CHECK.set("22: nothing changed", maps, 2, 0, 3);
        CHECK.is("22: not itself", maps.join(2, 2, 4), 2);
        CHECK.set("22: not itself", maps, 2, 1, 2);
        CHECK.is("22: less itself", maps.join(2, 2, 3), 0);
    }

    private static void many() {
        RoundMaps maps = Check.with("x;y");
        maps.grid(0, 16, 16, 0, 8, 8);
        CHECK.is("22: all", maps.join(0, 1, 4), 128);
        CHECK.is("23: all", maps.many(1), 128);
        CHECK.is("23: 40 at most", maps.count(6), 40);
        CHECK.is("23: the last told", maps.row(39), 39);
        CHECK.is("22: both", maps.join(0, 1, 1), 0);
        Check.put(maps, 1, 5, 70, 127);
        Check.put(maps, 2, 70, 100);
        CHECK.is("22: one of them or both", maps.join(1, 2, 2), 4);
        CHECK.set("22: one of them or both", maps, 2, 5, 70, 100, 127);
        CHECK.is("22: in t alone", maps.join(1, 2, 3), 1);
        CHECK.set("22: in t alone", maps, 2, 100);
        CHECK.is("22: none is in both", maps.join(1, 2, 1), 0);
        CHECK.is("22: none", maps.put(1, 70, false), 2);
        maps.put(0, 127, true);
        maps.put(0, 64, true);
        maps.put(0, 63, true);
        CHECK.set("23: ascending", maps, 0, 63, 64, 127);
        maps.many(2);
        CHECK.row("23: none", maps);
        CHECK.is("27: far cells touch others", maps.trap(0), 0);
        maps.join(2, 2, 4);
        CHECK.is("27: all cells", maps.trap(2), 1);
        maps.put(2, 100, false);
        CHECK.is("27: all cells but one", maps.trap(2), 0);
        CHECK.is("23: refused", maps.many(4), -1);
        CHECK.is("23: on a new object", new RoundMaps().many(3), 0);
    }

    private static void coreIs(String text, int[] of, int... due) {
        RoundMaps maps = Check.onLine(text, 0, 1024, 4);
        Check.put(maps, 0, of);
        CHECK.is("25: core", maps.core(0, 1), due.length);
        CHECK.set("25: core", maps, 1, due);
        CHECK.set("25: s stays", maps, 0, of);
        CHECK.is("25: of itself", maps.core(0, 0), due.length);
        CHECK.set("25: of itself", maps, 0, due);
    }

    private static void core() {
        coreIs(INWARD, new int[] {0, 1, 2, 3}, 0, 1);
        coreIs(INWARD, new int[] {1, 2, 3}, 1);
        coreIs(INWARD, new int[] {2, 3});
        coreIs(INWARD, new int[] {0}, 0);
        coreIs(INWARD, new int[] {});
        coreIs(OUTWARD, new int[] {0, 1, 2, 3});
        // ARROWS: 0 to 1, 2; 1 to 2, 3; 2 to 3: nothing stays, one CELL after the other
        coreIs("x+3/8", new int[] {0, 1, 2, 3});
        coreIs("1-x", new int[] {0, 2}, 0, 2);
        coreIs("1-x", new int[] {0, 1}, 1);
        coreIs("1-x", new int[] {0, 3}, 0, 3);
    }

    private static void reachIs(String text, int what, int[] from, int... due) {
        RoundMaps maps = Check.onLine(text, 0, 1024, 4);
        Check.put(maps, 3, from);
        CHECK.is("26: reach " + what, maps.reach(3, 0, what), due.length);
        CHECK.set("26: reach " + what, maps, 0, due);
        CHECK.set("26: s stays", maps, 3, from);
        CHECK.is("26: into itself", maps.reach(3, 3, what), due.length);
        CHECK.set("26: into itself", maps, 3, due);
    }

    private static void reach() {
        reachIs(INWARD, 0, new int[] {3}, 0, 1);
        reachIs(INWARD, 0, new int[] {0}, 0);
        reachIs(INWARD, 0, new int[] {});
        reachIs(INWARD, 1, new int[] {1}, 1, 2, 3);
        reachIs(INWARD, 1, new int[] {0}, 0, 1, 2, 3);
        reachIs(INWARD, 1, new int[] {3});
        reachIs(INWARD, 3, new int[] {1}, 0);
        reachIs(INWARD, 3, new int[] {0});
        reachIs(INWARD, 3, new int[] {3}, 0, 1, 2);
        reachIs(INWARD, 3, new int[] {}, 0, 1, 2, 3);
        reachIs(OUTWARD, 0, new int[] {0, 3}, 3);
        reachIs(OUTWARD, 1, new int[] {3}, 0, 1, 2);
        reachIs(OUTWARD, 3, new int[] {3});
        // all but 0 go to 0 alone, 0 goes everywhere
        reachIs("x<1/4?3/4+1/8:1/8", 0, new int[] {1}, 0, 1, 2, 3);
        reachIs("x<1/4?3/4+1/8:1/8", 1, new int[] {2}, 0, 1, 2, 3);
    }

    private static void reachSurely() {
        reachIs(INWARD, 2, new int[] {0}, 0);
        reachIs(INWARD, 2, new int[] {1}, 1, 3);
        reachIs(INWARD, 2, new int[] {0, 1}, 0, 1, 2, 3);
        reachIs(INWARD, 2, new int[] {});
        reachIs(OUTWARD, 2, new int[] {3}, 0, 1, 3);
        reachIs("x/2", 2, new int[] {0, 1}, 0, 1, 2, 3);
        // 3 comes to 0 by 1 alone: the least set grows step by step
        reachIs("x/4", 2, new int[] {0}, 0, 1, 2, 3);
    }

    private static void trapIs(String text, int due, int... cells) {
        RoundMaps maps = Check.onLine(text, 0, 1024, 4);
        Check.put(maps, 1, cells);
        CHECK.is("27: trap", maps.trap(1), due);
    }

    private static void trap() {
        trapIs(INWARD, 1, 0);
        trapIs(INWARD, 0, 1);
        trapIs(INWARD, 1, 0, 1);
        trapIs(INWARD, 1, 0, 1, 3);
        trapIs(INWARD, 0, 3);
        trapIs(INWARD, 1);
        trapIs(OUTWARD, 0, 3);
        trapIs(OUTWARD, 0, 0, 1, 2, 3);
        trapIs(OUTWARD, 1);
    }

    private static void refused() {
        RoundMaps maps = Check.onLine("x", 0, 1024, 4);
        Check.put(maps, 0, 1, 2);
        int[] none = {-1, 4};
        for (int bad : none) {
            CHECK.is("25: no s", maps.core(bad, 0), -1);
            CHECK.is("25: no t", maps.core(0, bad), -1);
            CHECK.is("26: no s", maps.reach(bad, 0, 0), -1);
            CHECK.is("26: no t", maps.reach(0, bad, 0), -1);
            CHECK.is("26: another what", maps.reach(0, 0, bad), -1);
            CHECK.is("27: no set", maps.trap(bad), -1);
        }
        Check.map(maps, "x;y");
        CHECK.is("25: no NET", maps.core(0, 0), -1);
        CHECK.is("26: no NET", maps.reach(0, 0, 2), -1);
        CHECK.is("27: no NET", maps.trap(0), -1);
        CHECK.set("25: nothing changed", maps, 0, 1, 2);
        CHECK.is("27: no MAP", new RoundMaps().trap(0), -1);
    }
}
