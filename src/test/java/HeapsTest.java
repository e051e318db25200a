/** Promises 28 to 32. */
public final class HeapsTest {
    private static final Check CHECK = new Check();

    public static void main(String[] args) {
        two();
        one();
        chain();
        refused();
        change();
        CHECK.end();
    }

    private static void two() {
        RoundMaps maps = Check.onLine("x/4+1/8", 0, 1024, 4);
        int[] due = {0, 1, -1, -1};
        CHECK.is("28: two", maps.heaps(), 2);
        for (int c = 0; c < 4; c++) {
            CHECK.is("29: heap of " + c, maps.heap(c), due[c]);
        }
        CHECK.is("30: 0 to 1", maps.order(0, 1), 0);
        CHECK.is("30: 1 to 0", maps.order(1, 0), 1);
        CHECK.is("30: of one", maps.order(0, 0), 1);
        CHECK.is("31: take", maps.take(1, 2), 1);
        CHECK.set("31: take", maps, 2, 1);
        maps.fine(2);
        CHECK.is("28: finer", maps.heaps(), 2);
        Check.map(maps, "x/4+7/8");
        CHECK.is("28: none of another map", maps.heaps(), 0);
        CHECK.is("29: none", maps.heap(3), -1);
    }

    private static void one() {
        RoundMaps maps = Check.onLine("1-x", 0, 1024, 4);
        CHECK.is("28: one", maps.heaps(), 1);
        Check.put(maps, 0, 0);
        CHECK.is("31: all", maps.take(0, 0), 4);
        CHECK.set("31: all", maps, 0, 0, 1, 2, 3);
        maps = Check.with("x;y");
        maps.grid(0, 16, 16, 0, 8, 8);
        CHECK.is("28: of the plane", maps.heaps(), 1);
        CHECK.is("29: the last cell", maps.heap(127), 0);
        CHECK.is("31: of the plane", maps.take(0, 3), 128);
    }

    /** A double comes out of the middle: HEAPS are numbered by their least CELLS. */
    private static void chain() {
        RoundMaps maps = Check.onLine("2*x", -1024, 1024, 8);
        int[] due = {-1, -1, 0, 1, 1, 2, -1, -1};
        CHECK.is("28: of a double", maps.heaps(), 3);
        for (int c = 0; c < 8; c++) {
            CHECK.is("29: of a double, " + c, maps.heap(c), due[c]);
        }
        int[][] order = {{1, 0, 0}, {1, 1, 1}, {0, 0, 1}};
        for (int i = 0; i < 9; i++) {
            CHECK.is("30: of a double, " + i, maps.order(i / 3, i % 3), order[i / 3][i % 3]);
        }
    }

    private static void refused() {
        RoundMaps maps = Check.onLine("x/4+1/8", 0, 1024, 4);
        Check.put(maps, 0, 3);
        int[] none = {-1, 2, Integer.MAX_VALUE};
        for (int bad : none) {
            CHECK.is("30: no i", maps.order(bad, 0), -1);
            CHECK.is("30: no j", maps.order(0, bad), -1);
            CHECK.is("31: no heap", maps.take(bad, 0), -1);
        }
        CHECK.is("29: no cell", maps.heap(4), -1);
        CHECK.is("29: no cell", maps.heap(-1), -1);
        CHECK.is("31: no set", maps.take(0, 4), -1);
        CHECK.is("31: no set", maps.take(0, -1), -1);
        Check.map(maps, "x;y");
        CHECK.is("28: no NET", maps.heaps(), -1);
        CHECK.is("29: no NET", maps.heap(0), -1);
        CHECK.is("30: no NET", maps.order(0, 0), -1);
        CHECK.is("31: no NET", maps.take(0, 0), -1);
        CHECK.is("32: no NET", maps.change(1), -1);
        CHECK.set("31: nothing changed", maps, 0, 3);
    }

    private static void change() {
        RoundMaps maps = Check.onLine("a", 0, 1024, 4);
        maps.letter(0, -2048, 4096);
        CHECK.is("32: six", maps.change(6), 2);
        CHECK.row("32: six", maps, 0, 1, 1, 1, 0, 0);
        maps.shut(0, 0, 0, 0);
        CHECK.row("32: a is what it was", maps, -2048, 4096);
        CHECK.is("32: the NET too", maps.next(0), 4);
        maps.letter(0, 0, 4096);
        CHECK.is("32: cut", maps.change(3), 1);
        CHECK.row("32: cut", maps, 1, 0, 0);
        CHECK.is("32: one", maps.change(1), 0);
        CHECK.row("32: one", maps, 1);
        CHECK.is("32: twelve", maps.change(12), 1);
        CHECK.is("32: twelve are told", maps.count(6), 12);
        CHECK.is("32: k 0", maps.change(0), -1);
        CHECK.is("32: k 13", maps.change(13), -1);
        CHECK.is("32: the ROW stays", maps.count(6), 12);
        // 0 .. 1023 is cut at 255, 511 and 767: 511 does not come to the grid
        maps.letter(0, 0, 1023);
        Check.map(maps, "a-1/2");
        CHECK.is("32: at the rim", maps.change(4), 1);
        CHECK.row("32: at the rim", maps, 0, 0, 1, 1);
    }
}
