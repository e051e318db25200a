/** Promises 41 to 44. */
public final class SteeringTest {
    private static final Check CHECK = new Check();

    public static void main(String[] args) {
        steer();
        least();
        kept();
        leaving();
        plane();
        far();
        safe();
        refused();
        CHECK.end();
    }

    /**
     * With PUSH 0: 0, 1, 2 to 0, 3 to 0, 1. With PUSH 1: 0 to 0, 1 and 2 to 0, 1, 3 to 1. With PUSH 2: 0 to 2,
     * 1 and 2 to 2, 3, 3 to 3.
     */
    private static RoundMaps pushed() {
        RoundMaps maps = Check.onLine("x/4+u", 0, 1024, 4);
        maps.push(128);
        maps.push(640);
        return maps;
    }

    private static void steer() {
        RoundMaps maps = pushed();
        int[][] reached = {{2}, {0, 2}, {0, 1, 2}, {0, 1, 2, 3}, {0, 1, 2, 3}};
        int[] steps = {1, 2, 0, 3};
        int[] plans = {2, 0, -1, 0};
        Check.put(maps, 1, 2);
        for (int c = 0; c < 4; c++) {
            CHECK.is("42: no steer() yet", maps.plan(c), -1);
            CHECK.is("43: no steer() yet", maps.steps(c), -1);
        }
        for (int n = 0; n <= 4; n++) {
            CHECK.is("41: in " + n, maps.steer(1, 3, n), reached[n].length);
            CHECK.set("41: in " + n, maps, 3, reached[n]);
            for (int c = 0; c < 4; c++) {
                CHECK.is("42: plan of " + c + " in " + n, maps.plan(c), steps[c] <= n ? plans[c] : -1);
                CHECK.is("43: steps of " + c + " in " + n, maps.steps(c), steps[c] <= n ? steps[c] : -1);
            }
        }
        CHECK.is("41: in 60", maps.steer(1, 1, 60), 4);
        CHECK.set("41: into itself", maps, 1, 0, 1, 2, 3);
        CHECK.is("41: from nowhere", maps.steer(0, 2, 60), 0);
        CHECK.is("43: from nowhere", maps.steps(2), -1);
        CHECK.is("17: u is 0 elsewhere", maps.next(3), 2);
        CHECK.row("17: u is 0 elsewhere", maps, 0, 1);
    }

    private static void least() {
        RoundMaps maps = Check.onLine("x/4+u", 0, 1024, 4);
        maps.push(640);
        maps.push(650);
        maps.push(0);
        Check.put(maps, 0, 2);
        CHECK.is("42: in one step", maps.steer(0, 1, 1), 2);
        CHECK.is("42: the least of two", maps.plan(0), 1);
        CHECK.is("42: in more", maps.steer(0, 1, 9), 4);
        CHECK.is("42: the first of all", maps.plan(1), 0);
    }

    private static void kept() {
        RoundMaps maps = pushed();
        Check.put(maps, 1, 2);
        maps.steer(1, 3, 60);
        maps.put(1, 2, false);
        maps.push(1);
        maps.letter(0, 5, 9);
        maps.fine(2);
        Check.map(maps, "x;y");
        CHECK.is("41: no NET", maps.steer(1, 3, 60), -1);
        maps.use(0);
        CHECK.is("44: safe", maps.safe(1, 2), 0);
        maps.use(1);
        CHECK.is("42: plan is kept", maps.plan(0), 2);
        CHECK.is("43: steps are kept", maps.steps(3), 3);
        CHECK.is("43: steps there", maps.steps(2), 0);
        int[] none = {-1, 4, Integer.MAX_VALUE};
        for (int bad : none) {
            CHECK.is("42: no cell", maps.plan(bad), -1);
            CHECK.is("43: no cell", maps.steps(bad), -1);
        }
        maps.grid(0, 4, 2, 0, 4, 2);
        CHECK.is("42: no steer() on a new grid", maps.plan(0), -1);
        CHECK.is("43: no steer() on a new grid", maps.steps(2), -1);
    }

    private static void leaving() {
        RoundMaps maps = Check.onLine("x/4+u", 0, 1024, 4);
        maps.push(896);
        Check.put(maps, 0, 3);
        CHECK.is("41: those that don't LEAVE", maps.steer(0, 1, 1), 3);
        CHECK.set("41: those that don't LEAVE", maps, 1, 0, 1, 3);
        CHECK.is("42: with the one PUSH", maps.plan(1), 1);
        CHECK.is("41: by others", maps.steer(0, 1, 2), 4);
        CHECK.is("42: first to another", maps.plan(2), 0);
        CHECK.is("43: in two", maps.steps(2), 2);
    }

    private static void plane() {
        RoundMaps maps = Check.with("x/4+u;y/4");
        maps.grid(0, 1024, 4, 0, 1024, 4);
        maps.push(640);
        Check.put(maps, 0, 2);
        CHECK.is("41: of the plane, in one", maps.steer(0, 0, 1), 4);
        CHECK.set("41: of the plane, in one", maps, 0, 0, 2, 4, 8);
        CHECK.is("42: of the plane", maps.plan(4), 1);
        CHECK.is("43: of the plane", maps.steps(2), 0);
    }

    /**
     * PUSH 0 leads a bit more than a column to the left and a bit down, PUSH 1 (not from the columns 5 and more, which
     * LEAVE) a bit less than eleven to the right and a bit more than a row down, so that each row is gone through.
     */
    private static void far() {
        int[] numbers = {0, 1, 2, 12, 13, 24, 58, 59, 60};
        for (int n : numbers) {
            RoundMaps maps = Check.with("x+u-11/10;y-u/12-1/10");
            maps.grid(0, 16384, 16, 0, 8192, 8);
            maps.push(12288);
            for (int c = 0; c < 32; c++) {
                maps.put(0, c, true);
            }
            int reached = 0;
            for (int c = 0; c < 128; c++) {
                reached += stepsOfFar(c) <= n ? 1 : 0;
            }
            CHECK.is("41: far, in " + n, maps.steer(0, 1, n), reached);
            for (int c = 0; c < 128; c++) {
                int steps = stepsOfFar(c);
                int plan = steps == 1 || c > 47 && c % 16 < 2 ? 1 : 0;
                CHECK.is("43: far, steps of " + c + " in " + n, maps.steps(c), steps <= n ? steps : -1);
                CHECK.is("42: far, plan of " + c + " in " + n, maps.plan(c), steps == 0 || steps > n ? -1 : plan);
            }
        }
    }

    /** Row 1 is there; from row 2 the least five columns drop; from above one has to come to the columns 0 or 1 first. */
    private static int stepsOfFar(int cell) {
        int column = cell % 16;
        int row = cell / 16;
        return row < 2 ? 0 : row == 2 ? Math.max(1, column - 3) : column + 9 + 12 * (row - 3);
    }

    private static void safeIs(int[] of, int... due) {
        RoundMaps maps = pushed();
        Check.put(maps, 0, of);
        CHECK.is("44: safe", maps.safe(0, 1), due.length);
        CHECK.set("44: safe", maps, 1, due);
        CHECK.set("44: s stays", maps, 0, of);
        CHECK.is("44: into itself", maps.safe(0, 0), due.length);
        CHECK.set("44: into itself", maps, 0, due);
        CHECK.is("44: it is no steer()", maps.steps(0), -1);
    }

    private static void safe() {
        safeIs(new int[] {1});
        safeIs(new int[] {3}, 3);
        safeIs(new int[] {1, 3}, 3);
        safeIs(new int[] {2, 3}, 2, 3);
        safeIs(new int[] {1, 2}, new int[0]);
        safeIs(new int[] {0, 1}, 0, 1);
        safeIs(new int[] {0, 1, 2, 3}, 0, 1, 2, 3);
        safeIs(new int[] {});
        RoundMaps maps = Check.onLine("2*x+u", -1024, 1024, 8);
        Check.put(maps, 0, 1, 2, 3, 4, 5, 6);
        CHECK.is("44: it goes apart", maps.safe(0, 1), 0);
        maps.push(256);
        maps.push(-256);
        CHECK.is("44: PUSHES do not help", maps.safe(0, 1), 0);
        maps.push(0);
        Check.map(maps, "x+u");
        maps.grid(-1024, 1024, 8, 0, 0, 1);
        Check.put(maps, 0, 1, 2, 3, 4, 5, 6);
        CHECK.is("44: pushed back from both ends", maps.safe(0, 1), 6);
        maps.put(0, 3, false);
        CHECK.is("44: there is a gap", maps.safe(0, 1), 3);
        CHECK.set("44: there is a gap", maps, 1, 4, 5, 6);
    }

    private static void refused() {
        RoundMaps maps = pushed();
        Check.put(maps, 0, 2);
        maps.steer(0, 1, 1);
        int[] none = {-1, 4};
        for (int bad : none) {
            CHECK.is("41: no s", maps.steer(bad, 0, 1), -1);
            CHECK.is("41: no t", maps.steer(0, bad, 1), -1);
            CHECK.is("44: no s", maps.safe(bad, 0), -1);
            CHECK.is("44: no t", maps.safe(0, bad), -1);
        }
        CHECK.is("41: n -1", maps.steer(0, 0, -1), -1);
        CHECK.is("41: n 61", maps.steer(0, 0, 61), -1);
        CHECK.is("43: steps stay", maps.steps(0), 1);
        Check.map(maps, "x;y");
        CHECK.is("44: no NET", maps.safe(0, 0), -1);
        CHECK.set("41: nothing changed", maps, 0, 2);
        CHECK.is("41: no MAP", new RoundMaps().steer(0, 0, 1), -1);
        CHECK.is("44: no MAP", new RoundMaps().safe(0, 0), -1);
    }
}
