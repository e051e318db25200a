import java.util.ArrayList;
import java.util.List;

/** Promises 14 to 20. */
public final class NetTest {
    private static final Check CHECK = new Check();

    public static void main(String[] args) {
        gridOfLine();
        gridOfPlane();
        gridClears();
        fine();
        arrows();
        planeArrows();
        rims();
        follows();
        noNet();
        cell();
        CHECK.end();
    }

    private static void gridOfLine() {
        RoundMaps maps = new RoundMaps();
        CHECK.is("14: no MAP", maps.grid(0, 4, 2, 0, 0, 1), -1);
        maps = Check.onLine("x", 0, 1024, 4);
        CHECK.is("14: w 0", maps.grid(0, 4, 0, 0, 0, 1), -1);
        CHECK.is("14: w -1", maps.grid(0, 4, -1, 0, 0, 1), -1);
        CHECK.is("14: w 17", maps.grid(0, 17, 17, 0, 0, 1), -1);
        CHECK.is("14: no multiple", maps.grid(0, 7, 2, 0, 0, 1), -1);
        CHECK.is("14: no width", maps.grid(5, 5, 1, 0, 0, 1), -1);
        CHECK.is("14: x1 below x0", maps.grid(4, 0, 2, 0, 0, 1), -1);
        CHECK.is("14: too low", maps.grid(-1000001, 1, 2, 0, 0, 1), -1);
        CHECK.is("14: too high", maps.grid(1, 1000001, 2, 0, 0, 1), -1);
        CHECK.is("14: beyond all", maps.grid(Integer.MIN_VALUE, Integer.MAX_VALUE, 1, 0, 0, 1), -1);
        CHECK.is("14: two rows", maps.grid(0, 4, 2, 0, 0, 2), -1);
        CHECK.is("14: y0", maps.grid(0, 4, 2, -1, 0, 1), -1);
        CHECK.is("14: y1", maps.grid(0, 4, 2, 0, 1, 1), -1);
        CHECK.is("14: nothing changed", maps.count(2), 4);
        CHECK.is("14: the widest", maps.grid(-1000000, 1000000, 16, 0, 0, 1), 16);
        CHECK.is("14: a multiple below 0", maps.grid(-9, -3, 3, 0, 0, 1), 3);
        CHECK.is("14: its cell", maps.cell(-5, 0), 1);
    }

    private static void gridOfPlane() {
        RoundMaps maps = Check.with("x;y");
        CHECK.is("14: a grid of the line", maps.grid(0, 4, 2, 0, 0, 1), -1);
        CHECK.is("14: y1 below y0", maps.grid(0, 4, 2, 4, 0, 2), -1);
        CHECK.is("14: y no multiple", maps.grid(0, 4, 2, 0, 5, 2), -1);
        CHECK.is("14: h 0", maps.grid(0, 4, 2, 0, 4, 0), -1);
        CHECK.is("14: h 17", maps.grid(0, 4, 2, 0, 17, 17), -1);
        CHECK.is("14: y too high", maps.grid(0, 4, 2, 999999, 1000001, 2), -1);
        CHECK.is("14: 144 cells", maps.grid(0, 16, 16, 0, 9, 9), -1);
        CHECK.is("14: 128 cells", maps.grid(0, 16, 16, 0, 8, 8), 128);
        Check.put(maps, 3, 5, 63, 64, 127);
        CHECK.is("14: 8 by 16", maps.grid(0, 8, 8, 0, 16, 16), 128);
        CHECK.set("14: far cells are gone too", maps, 3);
        CHECK.is("17: a far cell", maps.next(127), 4);
        CHECK.row("17: a far cell", maps, 118, 119, 126, 127);
        CHECK.is("17: then a near one", maps.next(0), 4);
        CHECK.row("17: then a near one", maps, 0, 1, 8, 9);
        CHECK.is("14: one cell", maps.grid(0, 1, 1, 0, 1, 1), 1);
    }

    private static void gridClears() {
        RoundMaps maps = Check.onLine("x", 0, 1024, 4);
        for (int set = 0; set < 4; set++) {
            maps.put(set, set, true);
        }
        maps.box(0, 1);
        maps.sight(2, 7);
        maps.see(3);
        maps.push(4);
        maps.fine(1);
        maps.steer(0, 0, 3);
        maps.next(0);
        CHECK.is("14: refused", maps.grid(0, 1024, 5, 0, 0, 1), -1);
        CHECK.is("14: steps stay", maps.steps(0), 0);
        CHECK.is("14: sights stay", maps.sight(2, 7), 7);
        CHECK.is("14: the same grid", maps.grid(0, 1024, 4, 0, 0, 1), 4);
        CHECK.row("14: the ROW stays", maps, 0, 1);
        CHECK.is("14: steps", maps.steps(0), -1);
        for (int set = 0; set < 4; set++) {
            CHECK.is("14: set " + set, maps.many(set), 0);
        }
        CHECK.is("14: boxes", maps.count(4), 0);
        CHECK.is("14: sights", maps.sight(2, 0), 0);
        CHECK.is("14: seen", maps.count(5), 0);
        CHECK.is("14: pushes stay", maps.count(3), 2);
        CHECK.is("14: fine stays", maps.count(8), 1);
    }

    private static void fine() {
        RoundMaps maps = Check.onLine("x*(1-x)", 0, 1024, 4);
        CHECK.is("15: whole cells", maps.next(0), 2);
        CHECK.row("15: whole cells", maps, 0, 1);
        CHECK.is("15: fine 1", maps.fine(1), 0);
        CHECK.is("15: halves", maps.next(0), 1);
        CHECK.row("15: halves", maps, 0);
        CHECK.is("15: fine 3", maps.fine(3), -1);
        CHECK.is("15: fine -1", maps.fine(-1), -1);
        CHECK.is("15: fine 2", maps.fine(2), 1);
        CHECK.is("15: fine 0", maps.fine(0), 2);
        CHECK.is("15: whole cells again", maps.next(0), 2);
        CHECK.run(new RoundMaps(), "15: 0 .. 7 is cut at 1, 3, 5", "map A(1024*x*(6-1024*x))/3/750 = 0",
            "grid 0 7 1 0 0 1 = 1", "leaves 0 = 1", "fine 1 = 0", "leaves 0 = 1", "fine 2 = 1", "leaves 0 = 0",
            "arrows = 1");
        // 0 .. 257 is cut at 128: at 129 no IMAGE would go beyond 257
        maps = Check.onLine("1024*x*(300-1024*x)/171/512/2", 0, 257, 1);
        maps.fine(1);
        CHECK.is("15: cut", maps.leaves(0), 1);
        maps = Check.with("x*(1-x);y*(1-y)");
        maps.grid(0, 1024, 4, 0, 1024, 4);
        CHECK.is("15: whole cells of the plane", maps.next(0), 4);
        maps.fine(1);
        CHECK.is("15: quarters", maps.next(0), 1);
    }

    private static void arrows() {
        RoundMaps maps = Check.onLine("x/4+1/8", 0, 1024, 4);
        CHECK.is("16: arrows", maps.arrows(), 6);
        int[][] due = {{0}, {0, 1}, {0, 1}, {1}};
        int[][] from = {{0, 1, 2}, {1, 2, 3}, {}, {}};
        for (int c = 0; c < 4; c++) {
            CHECK.is("17: next " + c, maps.next(c), due[c].length);
            CHECK.row("17: next " + c, maps, due[c]);
            CHECK.is("18: back " + c, maps.back(c), from[c].length);
            CHECK.row("18: back " + c, maps, from[c]);
            CHECK.is("19: leaves " + c, maps.leaves(c), 0);
        }
        maps = Check.onLine("x/4+7/8", 0, 1024, 4);
        int[] leaves = {0, 0, 1, 1};
        int[] next = {1, 1, 1, 0};
        for (int c = 0; c < 4; c++) {
            CHECK.is("17: next of leaving " + c, maps.next(c), next[c]);
            CHECK.is("19: leaving " + c, maps.leaves(c), leaves[c]);
        }
        CHECK.row("17: none", maps);
        maps = Check.onLine("x-1", 0, 1024, 4);
        CHECK.is("19: it leaves to the left", maps.leaves(3), 1);
        CHECK.is("17: it meets the rim", maps.next(3), 1);
        CHECK.is("17: it does not", maps.next(2), 0);
        maps.letter(1, 0, 5);
        Check.map(maps, "x+n");
        CHECK.is("17: noise", maps.next(1), 3);
        maps.letter(1, 1, 5);
        CHECK.is("17: other noise", maps.next(1), 2);
    }

    private static void planeArrows() {
        RoundMaps maps = Check.with("x;y");
        maps.grid(-10, 10, 2, -10, 10, 2);
        CHECK.is("16: of the plane", maps.arrows(), 16);
        maps.grid(0, 30, 3, 0, 30, 3);
        CHECK.is("17: a corner", maps.next(0), 4);
        CHECK.row("17: a corner", maps, 0, 1, 3, 4);
        CHECK.is("18: a side", maps.back(7), 6);
        CHECK.row("18: a side", maps, 3, 4, 5, 6, 7, 8);
        Check.map(maps, "x;y+1");
        CHECK.is("19: y leaves", maps.leaves(0), 1);
        CHECK.is("17: it meets none", maps.next(0), 0);
        Check.map(maps, "n;n");
        maps.letter(1, 0, 1024);
        maps.grid(0, 1024, 16, 0, 1024, 8);
        CHECK.is("16: all there can be", maps.arrows(), 16384);
        CHECK.is("17: all cells", maps.next(5), 128);
        CHECK.is("17: all are told", maps.row(127), 127);
        CHECK.is("18: all cells", maps.back(127), 128);
        CHECK.is("18: all are told", maps.count(6), 128);
        Check.map(maps, "x/8;y/8");
        CHECK.is("18: to the last cell", maps.back(127), 0);
        CHECK.is("18: to a far cell", maps.back(64), 0);
        CHECK.is("18: to a near cell", maps.back(17), 9);
        CHECK.row("18: to a near cell", maps, 119, 120, 121, 122, 123, 124, 125, 126, 127);
    }

    /** On 0 .. 1024, cut at 256, 512, 768, of the line and of both sides of the plane. */
    private static void rims() {
        int[][] spans = {{256, 256}, {255, 255}, {257, 257}, {255, 257}, {257, 511}, {256, 512}, {0, 0}, {1024, 1024},
            {1025, 1025}, {-1, -1}, {-1, 0}, {1024, 1025}, {-5, 1030}, {-1000000, 1000000}, {-1000000, -1},
            {1025, 1000000}, {0, 1024}, {1, 1023}, {767, 768}, {769, 1024}};
        String[] due = {"2 : 0 1", "1 : 0", "1 : 1", "2 : 0 1", "1 : 1", "3 : 0 1 2", "1 : 0", "1 : 3", "0 :", "0 :",
            "1 : 0", "1 : 3", "4 : 0 1 2 3", "4 : 0 1 2 3", "0 :", "0 :", "4 : 0 1 2 3", "4 : 0 1 2 3", "2 : 2 3", "1 : 3"};
        for (int i = 0; i < spans.length; i++) {
            String letter = "letter 1 " + spans[i][0] + " " + spans[i][1];
            String leaves = "leaves 2 = " + (spans[i][0] < 0 || spans[i][1] > 1024 ? 1 : 0);
            CHECK.run(new RoundMaps(), "17: " + letter, "map n = 0", "grid 0 1024 4 0 0 1 = 4", letter + " = 1",
                "next 2 = " + due[i], leaves);
            CHECK.run(new RoundMaps(), "17: across, " + letter, "map n;1/2 = 0", "grid 0 1024 4 0 1024 1 = 4",
                letter + " = 1", "next 2 = " + due[i], leaves);
            CHECK.run(new RoundMaps(), "17: up, " + letter, "map 1/2;n = 0", "grid 0 1024 1 0 1024 4 = 4",
                letter + " = 1", "next 2 = " + due[i], leaves);
        }
    }

    /** Whatever changes THE NET, it is another one at once, though it was asked just before. */
    private static void follows() {
        for (int what = 0; what < 3; what++) {
            String letter = "letter " + what + " ";
            CHECK.run(new RoundMaps(), "16: behind " + letter, "map " + "and".charAt(what) + " = 0",
                "grid 0 1024 4 0 0 1 = 4", "next 3 = 1 : 0", "heaps = 1", "heap 0 = 0", "put 0 3 1 = 1",
                "steer 0 1 9 = 1", letter + "1024 1024 = 1", "next 3 = 1 : 3", "heaps = 1", "heap 0 = -1", "heap 3 = 0",
                "steer 0 1 9 = 4", "safe 0 1 = 1", letter + "1025 1025 = 1", "heaps = 0", "safe 0 1 = 0",
                "next 3 = 0 :", "leaves 3 = 1");
        }
        String[] changes = {"letter 0 2000 2100", "letter 1 1000 1100", "letter 2 700 700", "use 1", "map", "fine 0",
            "fine 2",
            "push 100", "grid -512 1536 8 0 0 1", "drive 2 3 900 1", "change 3", "letter 0 -18 9"};
        for (String name : new String[] {"line", "plane"}) {
            for (String change : changes) {
                RoundMaps asked = State.lead(new RoundMaps(), name, "");
                net(asked);
                State.lead(asked, change);
                RoundMaps fresh = State.lead(new RoundMaps(), name, "");
                State.lead(fresh, change);
                CHECK.same("16: behind " + change + ", " + name, net(asked), net(fresh));
            }
        }
    }

    private static List<String> net(RoundMaps maps) {
        List<String> seen = new ArrayList<>();
        for (String call : new String[] {"arrows", "heaps", "rings 2", "heap 3", "order 0 1", "covers 0 1"}) {
            seen.add(call + " = " + State.ask(maps, call));
        }
        for (int c = 0; c < maps.count(2); c++) {
            int next = maps.next(c);
            seen.add("next " + c + " = " + next + (next < 0 ? "" : Check.rowOf(maps)));
            seen.add("leaves " + c + " = " + maps.leaves(c));
        }
        maps.join(1, 1, 3);
        maps.join(1, 2, 0);
        for (int c = 0; c < maps.count(2); c++) {
            maps.put(1, c, c % 3 < 2);
        }
        for (String call : new String[] {"core 1 2", "safe 1 2", "reach 1 2 2", "reach 1 2 3", "steer 1 2 1",
            "steer 1 2 9"}) {
            seen.add(call + " = " + State.ask(maps, call) + maps.many(2) + Check.rowOf(maps));
        }
        return seen;
    }

    private static void noNet() {
        RoundMaps maps = new RoundMaps();
        for (int i = 0; i < 2; i++) {
            CHECK.is("16: no NET", maps.arrows(), -1);
            CHECK.is("17: no NET", maps.next(0), -1);
            CHECK.is("18: no NET", maps.back(0), -1);
            CHECK.is("19: no NET", maps.leaves(0), -1);
            CHECK.is("20: no NET is asked", maps.cell(0, 0), 0);
            Check.map(maps, "x;y");
        }
        maps = Check.onLine("x", 0, 1024, 4);
        int[] none = {-1, 4, Integer.MAX_VALUE, Integer.MIN_VALUE};
        maps.next(0);
        for (int cell : none) {
            CHECK.is("17: no cell " + cell, maps.next(cell), -1);
            CHECK.is("18: no cell " + cell, maps.back(cell), -1);
            CHECK.is("19: no cell " + cell, maps.leaves(cell), -1);
        }
        CHECK.row("17: the ROW stays", maps, 0, 1);
        Check.map(maps, "x;y");
        CHECK.is("16: not of its kind", maps.arrows(), -1);
        maps.use(0);
        CHECK.is("16: of its kind again", maps.arrows(), 10);
    }

    private static void cell() {
        RoundMaps maps = Check.onLine("x", -8, 8, 4);
        int[][] due = {{-9, -1}, {-8, 0}, {-4, 0}, {-3, 1}, {0, 1}, {1, 2}, {5, 3}, {8, 3}, {9, -1},
            {Integer.MAX_VALUE, -1}, {Integer.MIN_VALUE, -1}};
        for (int[] pair : due) {
            CHECK.is("20: cell at " + pair[0], maps.cell(pair[0], Integer.MIN_VALUE), pair[1]);
        }
        maps.grid(5, 8, 3, 0, 0, 1);
        int[] narrow = {-1, 0, 0, 1, 2, -1};
        for (int i = 0; i < 6; i++) {
            CHECK.is("20: narrow, at " + (4 + i), maps.cell(4 + i, 0), narrow[i]);
        }
        Check.map(maps, "x;y");
        CHECK.is("20: the grid is of the line still", maps.cell(7, 99), 1);
        maps.grid(0, 6, 3, -4, 4, 2);
        CHECK.is("20: the first corner", maps.cell(0, -4), 0);
        CHECK.is("20: of four the least", maps.cell(2, 0), 0);
        CHECK.is("20: of two the least", maps.cell(3, 0), 1);
        CHECK.is("20: of two the least", maps.cell(2, 1), 3);
        CHECK.is("20: the last corner", maps.cell(6, 4), 5);
        CHECK.is("20: below", maps.cell(0, -5), -1);
        CHECK.is("20: above", maps.cell(0, 5), -1);
        CHECK.is("20: left", maps.cell(-1, 0), -1);
        CHECK.is("20: right", maps.cell(7, 0), -1);
    }
}
