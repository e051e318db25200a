/** Promises 33 to 36. */
public final class RingsTest {
    private static final Check CHECK = new Check();
    private static final String TENT = "x<1/2?2*x:2-2*x";

    public static void main(String[] args) {
        ring();
        ringOfMany();
        undecidedOnTheWay();
        lettersAreSpans();
        stable();
        besideOne();
        rings();
        turning();
        refused();
        CHECK.end();
    }

    private static void ringIs(String text, int from, int to, int n, int due) {
        RoundMaps maps = Check.onLine(text, from, to, 1);
        CHECK.is("33: ring of " + text, maps.ring(0, n), due);
    }

    private static void ring() {
        ringIs("x+1", 0, 1023, 1, 0);
        ringIs("x-1", 0, 1023, 1, 0);
        ringIs("x+1", 0, 1024, 1, 5);
        ringIs("x<1/2?5:6", 0, 1024, 1, 0);
        ringIs("x<1/2?5:x", 0, 1024, 1, 4);
        ringIs("(x<1/2?5:6)<7?x/2:x", 0, 1024, 1, 4);
        ringIs(TENT, 0, 500, 1, 3);
        ringIs(TENT, 0, 512, 1, 4);
        ringIs(TENT, 512, 1024, 1, 2);
        ringIs("1-A(2*x-1)", 256, 896, 1, 1);
        ringIs("4*x*(1-x)", 640, 896, 1, 2);
        ringIs("2*x", 0, 256, 1, 3);
        ringIs("2*x", -256, 256, 1, 2);
        ringIs("x/2", -256, 256, 1, 2);
        ringIs("x/2", 0, 256, 1, 3);
        ringIs("x", 0, 256, 1, 5);
        ringIs("1-x", 256, 512, 1, 3);
        ringIs("1-x", 256, 768, 1, 2);
    }

    private static void ringOfMany() {
        ringIs("1-x", 0, 256, 1, 0);
        ringIs("1-x", 0, 256, 2, 5);
        ringIs("x+1/8", 0, 256, 2, 5);
        ringIs("x+1/8", 0, 256, 3, 0);
        ringIs("x/2", -256, 256, 12, 2);
        ringIs("-2*x", -256, 256, 2, 2);
        ringIs("-2*x", -256, 256, 11, 2);
        ringIs(TENT, 600, 800, 1, 2);
        ringIs(TENT, 600, 800, 2, 4);
        // 2/5 and 4/5 change places
        ringIs(TENT, 400, 420, 1, 0);
        ringIs(TENT, 400, 420, 2, 2);
        ringIs(TENT, 800, 830, 2, 2);
    }

    /** Tests that were UNDECIDED ahead of the last step, or in it alone. */
    private static void undecidedOnTheWay() {
        ringIs("x<1/2?2:3-x", 0, 1024, 1, 0);
        ringIs("x<1/2?2:3-x", 0, 1024, 2, 4);
        ringIs("x<1/2?2:3-x", 0, 500, 2, 0);
        ringIs("x<1/2?2:3-x", 512, 1024, 2, 5);
        ringIs("x<5/2?2+x:x-2", 0, 1024, 1, 0);
        ringIs("x<5/2?2+x:x-2", 0, 1024, 2, 4);
        ringIs("x<5/2?2+x:x-2", 0, 400, 2, 0);
        ringIs("x<5/2?2+x:x-2", 512, 1024, 2, 5);
    }

    private static void lettersAreSpans() {
        int[] due = {2, 2, 1, 3, 4, 0};
        String[] texts = {"x/2", "1-x", "1-A(2*x-1)", "2*x", TENT, "x+2"};
        int[][] cells = {{-256, 256}, {256, 768}, {256, 896}, {0, 256}, {0, 512}, {0, 1024}};
        for (int i = 0; i < due.length; i++) {
            for (int what = 0; what < 3; what++) {
                RoundMaps maps = Check.onLine(texts[i], cells[i][0], cells[i][1], 1);
                maps.letter(what, 5, 5);
                CHECK.is("33: a number for a letter", maps.ring(0, 1), due[i]);
                maps.letter(what, 5, 6);
                CHECK.is("33: a span for a letter", maps.ring(0, 1), due[i] == 4 || due[i] == 0 ? due[i] : 5);
            }
        }
    }

    private static void stableIs(String text, int from, int to, int n, int due) {
        RoundMaps maps = Check.onLine(text, from, to, 1);
        CHECK.is("34: stable of " + text, maps.stable(0, n), due);
    }

    private static void stable() {
        stableIs("x/2", 0, 256, 1, 1);
        stableIs("-x/2", 0, 256, 1, 1);
        stableIs("2*x", 0, 256, 1, 0);
        stableIs("-2*x", 0, 256, 1, 0);
        stableIs("x", 0, 256, 1, 2);
        stableIs("-x", 0, 256, 1, 2);
        stableIs("Ax", -256, 256, 1, 2);
        stableIs("A(x/2)", -256, 256, 1, 1);
        stableIs("4*x*(1-x)", 640, 896, 1, 2);
        stableIs("4*x*(1-x)", 704, 832, 1, 0);
        stableIs("4*x*(1-x)", 500, 540, 1, 1);
        stableIs(TENT, 0, 500, 1, 0);
        stableIs(TENT, 0, 512, 1, 2);
        stableIs("x/2", 0, 256, 12, 1);
        stableIs("-2*x", 0, 256, 2, 0);
        stableIs(TENT, 0, 300, 1, 0);
        stableIs(TENT, 0, 300, 2, 2);
        stableIs("x<1?2*x:x/4", 600, 1000, 1, 0);
        stableIs("x<1?2*x:x/4", 600, 1000, 2, 1);
    }

    /** SLOPES beside 1024 and -1024. */
    private static void besideOne() {
        int[] slopes = {1023, 1024, 1025, -1023, -1024, -1025};
        int[] stable = {1, 2, 0, 1, 2, 0};
        int[] ring = {3, 5, 3, 3, 3, 3};
        for (int i = 0; i < slopes.length; i++) {
            RoundMaps maps = Check.onLine("a*x", 0, 256, 1);
            maps.letter(0, slopes[i], slopes[i]);
            CHECK.is("33: SLOPE " + slopes[i], maps.ring(0, 1), ring[i]);
            CHECK.is("34: SLOPE " + slopes[i], maps.stable(0, 1), stable[i]);
        }
        int[][] spans = {{1023, 1024}, {1024, 1025}, {1025, 1026}, {1022, 1023}, {-1023, 1023}, {-1024, 1023}, {-1023, 1024},
            {-1026, -1025}, {-1025, -1024}, {-1025, 1025}};
        int[] due = {2, 2, 0, 1, 1, 2, 2, 0, 2, 2};
        for (int i = 0; i < spans.length; i++) {
            RoundMaps maps = Check.onLine("a*x", 0, 256, 1);
            maps.letter(0, spans[i][0], spans[i][1]);
            CHECK.is("34: SLOPE from " + spans[i][0] + " to " + spans[i][1], maps.stable(0, 1), due[i]);
        }
    }

    private static void rings() {
        RoundMaps maps = Check.onLine("1-x", 0, 1024, 4);
        CHECK.is("35: of 1", maps.rings(1), 2);
        CHECK.row("35: of 1", maps, 1, 2);
        CHECK.is("35: of 2", maps.rings(2), 4);
        CHECK.row("35: of 2", maps, 0, 1, 2, 3);
        CHECK.is("35: of 60", maps.rings(60), 4);
        CHECK.is("35: of 0", maps.rings(0), -1);
        CHECK.is("35: of 61", maps.rings(61), -1);
        maps = Check.with("1-x;y");
        maps.grid(0, 1024, 16, 0, 8, 8);
        CHECK.is("35: the two columns amid, of 1", maps.rings(1), 16);
        CHECK.row("35: the two columns amid, of 1", maps, 7, 8, 23, 24, 39, 40, 55, 56, 71, 72, 87, 88, 103, 104, 119, 120);
        CHECK.is("35: all of them, of 2", maps.rings(2), 128);
        CHECK.is("35: 40 at most", maps.count(6), 40);
        CHECK.is("35: the last told", maps.row(39), 39);
        // a step is wrong by one column at most, so that in an odd number of steps just those amid come back
        for (int n = 1; n <= 60; n++) {
            CHECK.is("35: of " + n, maps.rings(n), n % 2 == 0 ? 128 : 8 * Math.min(16, n + 1));
        }
    }

    private static void turn(String text, int due) {
        RoundMaps maps = Check.with(text);
        maps.grid(-1024, 1024, 2, -1024, 1024, 2);
        CHECK.is("36: told of " + text, maps.turning(0, 3), 1);
        CHECK.row("36: turning of " + text, maps, due);
    }

    private static void turnOne(String text, int due) {
        RoundMaps maps = Check.with(text);
        maps.grid(-1024, 1024, 1, -1024, 1024, 1);
        CHECK.is("36: told of one cell, " + text, maps.turning(0, 0), 1);
        CHECK.row("36: turning of one cell, " + text, maps, due);
    }

    private static void turnFar(String text, int due) {
        CHECK.run(Check.with(text), "36: " + text, "grid -10240 10240 10 -10240 10240 10 = 100",
            "turning 0 99 = 1 : " + due, "turning 0 0 = 1 : 0", "turning 90 99 = 1 : 0", "turning 99 99 = 1 : 0");
    }

    private static void turning() {
        turn("y;-x", 1);
        turn("x/2;y/2", 1);
        turn("0;0", 1);
        turn("2*x;y/2", -1);
        turn("x/2;2*y", -1);
        turn("2*x;2*y", 1);
        turn("x+3;y", 0);
        turn("x-3;y", 0);
        turn("x+1;y+1", 0);
        turn("x;y-3", 0);
        turn("x+3*y;y-3*x", 1);
        turn("x-3*y;y+3*x", 1);
        turn("x+3*y;y+3*x", -1);
        for (String still : new String[] {"x/9;-1", "x/9;1", "1;y/9", "-1;y/9"}) {
            RoundMaps one = Check.with(still);
            one.grid(-1024, 1024, 1, -1024, 1024, 1);
            CHECK.is("36: a side stands still, " + still, one.turning(0, 0), 0);
        }
        turnOne("0;0", 1);
        turnOne("x+3*y;y-3*x", 1);
        turnOne("x-3*y;y+3*x", 1);
        turnOne("x+3*y;y+3*x", -1);
        // IMAGE less place is the second and the third power of the place, and these mirrored
        turnFar("x*x-y*y+x;2*x*y+y", 2);
        turnFar("x*x-y*y+x;y-2*x*y", -2);
        turnFar("x*x*x-3*x*y*y+x;3*x*x*y-y*y*y+y", 3);
        turnFar("x*x*x-3*x*y*y+x;y*y*y-3*x*x*y+y", -3);
        RoundMaps maps = Check.with("0;0");
        maps.grid(-3072, 5120, 8, -3072, 5120, 8);
        CHECK.is("36: round 0", maps.turning(18, 36), 1);
        CHECK.row("36: round 0", maps, 1);
        CHECK.is("36: elsewhere", maps.turning(0, 9), 1);
        CHECK.row("36: elsewhere", maps, 0);
        CHECK.is("36: a row of cells", maps.turning(40, 47), 1);
        CHECK.row("36: a row of cells", maps, 0);
        CHECK.is("36: one cell", maps.turning(63, 63), 1);
        CHECK.row("36: one cell", maps, 0);
        CHECK.is("36: 0 is on its rim", maps.turning(27, 36), 0);
        CHECK.row("36: the ROW stays", maps, 0);
        CHECK.is("36: 0 is on its rim, further round", maps.turning(18, 18), 0);
        CHECK.row("36: the ROW stays", maps, 0);
        CHECK.is("36: above 0", maps.turning(35, 44), 1);
        CHECK.row("36: above 0", maps, 0);
        CHECK.is("36: right of 0", maps.turning(28, 37), 1);
        CHECK.row("36: right of 0", maps, 0);
        CHECK.is("36: not to the left", maps.turning(9, 16), -1);
        CHECK.is("36: not down", maps.turning(9, 2), -1);
        CHECK.is("36: no cell", maps.turning(-1, 3), -1);
        CHECK.is("36: no cell", maps.turning(0, 64), -1);
    }

    private static void refused() {
        RoundMaps maps = Check.onLine("x", 0, 1024, 4);
        int[] none = {-1, 4};
        for (int bad : none) {
            CHECK.is("33: no cell", maps.ring(bad, 1), -1);
            CHECK.is("34: no cell", maps.stable(bad, 1), -1);
        }
        int[] times = {-1, 0, 13};
        for (int bad : times) {
            CHECK.is("33: another n", maps.ring(0, bad), -1);
            CHECK.is("34: another n", maps.stable(0, bad), -1);
        }
        CHECK.is("36: of the line", maps.turning(0, 0), -1);
        Check.map(maps, "x;y");
        CHECK.is("33: not of its kind", maps.ring(0, 1), -1);
        CHECK.is("34: not of its kind", maps.stable(0, 1), -1);
        CHECK.is("35: not of its kind", maps.rings(1), -1);
        CHECK.is("36: not of its kind", maps.turning(0, 0), -1);
        maps.grid(0, 4, 2, 0, 4, 2);
        CHECK.is("33: of the plane", maps.ring(0, 1), -1);
        CHECK.is("34: of the plane", maps.stable(0, 1), -1);
        maps = new RoundMaps();
        CHECK.is("33: no MAP", maps.ring(0, 1), -1);
        CHECK.is("34: no MAP", maps.stable(0, 1), -1);
        CHECK.is("35: no MAP", maps.rings(1), -1);
        CHECK.is("36: no MAP", maps.turning(0, 0), -1);
    }
}
