/** Promises 45 to 50. */
public final class SightsTest {
    private static final Check CHECK = new Check();

    public static void main(String[] args) {
        sight();
        see();
        sense();
        homesOfPlane();
        homesOfLine();
        row();
        CHECK.end();
    }

    private static void sight() {
        RoundMaps maps = Check.onLine("x", 0, 1024, 4);
        CHECK.is("45: at first", maps.sight(3, 9), 0);
        CHECK.is("45: what it was", maps.sight(3, 0), 9);
        CHECK.is("45: and again", maps.sight(3, 4), 0);
        CHECK.is("45: v 10", maps.sight(3, 10), -1);
        CHECK.is("45: v -1", maps.sight(3, -1), -1);
        CHECK.is("45: no cell", maps.sight(4, 1), -1);
        CHECK.is("45: no cell", maps.sight(-1, 1), -1);
        CHECK.is("45: nothing changed", maps.sight(3, 4), 4);
        CHECK.is("45: no NET is asked", new RoundMaps().sight(0, 5), 0);
    }

    private static void see() {
        RoundMaps maps = new RoundMaps();
        CHECK.is("47: nothing yet", maps.blind(), 0);
        for (int i = 1; i <= 12; i++) {
            CHECK.is("46: see " + i, maps.see(i % 10), i);
        }
        CHECK.is("46: a thirteenth", maps.see(0), -1);
        CHECK.is("46: how many", maps.count(5), 12);
        CHECK.is("47: blind", maps.blind(), 12);
        CHECK.is("47: nothing is seen", maps.count(5), 0);
        CHECK.is("46: v 10", maps.see(10), -1);
        CHECK.is("46: v -1", maps.see(-1), -1);
        CHECK.is("46: once more", maps.see(9), 1);
    }

    /** ARROWS: 0 to 0; 1 and 2 to 0, 1; 3 to 1. */
    private static void sense() {
        RoundMaps maps = Check.onLine("x/4+1/8", 0, 1024, 4);
        int[] sights = {1, 2, 0, 2};
        for (int c = 0; c < 4; c++) {
            maps.sight(c, sights[c]);
        }
        CHECK.is("48: nothing seen", maps.sense(0), 4);
        CHECK.set("48: nothing seen", maps, 0, 0, 1, 2, 3);
        int[] seen = {2, 2, 1, 1, 2};
        int[][] due = {{1, 3}, {1}, {0}, {0}, {}};
        for (int i = 0; i < seen.length; i++) {
            maps.see(seen[i]);
            CHECK.is("48: seen " + i, maps.sense(2), due[i].length);
            CHECK.set("48: seen " + i, maps, 2, due[i]);
        }
        maps.blind();
        maps.see(0);
        CHECK.is("48: seen anew", maps.sense(2), 1);
        maps.see(0);
        CHECK.is("48: there is no ARROW", maps.sense(2), 0);
        CHECK.is("48: no set", maps.sense(4), -1);
        CHECK.is("48: no set", maps.sense(-1), -1);
        Check.map(maps, "x;y");
        CHECK.is("48: no NET", maps.sense(0), -1);
        CHECK.set("48: nothing changed", maps, 0, 0, 1, 2, 3);
        CHECK.is("48: no MAP", new RoundMaps().sense(0), -1);
    }

    private static void homesOfPlane() {
        RoundMaps maps = Check.with("x;y");
        maps.grid(0, 5, 5, 0, 4, 4);
        CHECK.is("49: of none", maps.homes(0, 0), 0);
        CHECK.is("49: holes of none", maps.homes(0, 1), 0);
        maps.join(0, 1, 4);
        CHECK.is("49: of all", maps.homes(1, 0), 1);
        CHECK.is("49: holes of all", maps.homes(1, 1), 0);
        maps.put(1, 6, false);
        CHECK.is("49: one hole", maps.homes(1, 1), 1);
        maps.put(1, 12, false);
        CHECK.is("49: two holes at a corner", maps.homes(1, 1), 2);
        maps.put(1, 7, false);
        CHECK.is("49: they are one", maps.homes(1, 1), 1);
        maps.put(1, 17, false);
        CHECK.is("49: it is open", maps.homes(1, 1), 0);
        maps.put(1, 17, true);
        maps.put(1, 5, false);
        CHECK.is("49: it is open on the left", maps.homes(1, 1), 0);
        maps.put(1, 5, true);
        maps.put(1, 0, false);
        CHECK.is("49: a corner opens none", maps.homes(1, 1), 1);
        CHECK.is("49: one part still", maps.homes(1, 0), 1);
        Check.put(maps, 2, 0, 6, 4, 9, 15, 19);
        CHECK.is("49: parts", maps.homes(2, 0), 4);
        // the end of a row is no neighbour of the next row's beginning
        Check.put(maps, 3, 4, 5);
        CHECK.is("49: two ends", maps.homes(3, 0), 2);
        int[] none = {-1, 4};
        for (int bad : none) {
            CHECK.is("49: no set", maps.homes(bad, 0), -1);
            CHECK.is("49: another what", maps.homes(0, bad), -1);
        }
        CHECK.is("49: what 2", maps.homes(0, 2), -1);
    }

    private static void homesOfLine() {
        RoundMaps maps = Check.onLine("x", 0, 1024, 8);
        Check.put(maps, 0, 0, 1, 3, 5, 6, 7);
        CHECK.is("49: of the line", maps.homes(0, 0), 3);
        CHECK.is("49: no holes on the line", maps.homes(0, 1), 0);
        Check.map(maps, "x;y");
        CHECK.is("49: no NET is asked", maps.homes(0, 0), 3);
        CHECK.is("49: nor a MAP", new RoundMaps().homes(0, 0), 0);
    }

    private static void row() {
        RoundMaps maps = new RoundMaps();
        CHECK.throwsNone("50: no ROW", maps, 0);
        CHECK.throwsNone("50: no ROW", maps, -1);
        Check.map(maps, "x+1");
        maps.shut(3, 4, 0, 0);
        CHECK.is("50: number 0", maps.row(0), 1027);
        CHECK.is("50: number 1", maps.row(1), 1028);
        CHECK.throwsNone("50: number 2", maps, 2);
        CHECK.throwsNone("50: number -1", maps, -1);
        CHECK.throwsNone("50: the greatest", maps, Integer.MAX_VALUE);
        CHECK.throwsNone("50: the least", maps, Integer.MIN_VALUE);
        maps.many(0);
        CHECK.throwsNone("50: an empty ROW", maps, 0);
    }
}
