/** Promises 37 to 40. */
public final class WordsTest {
    private static final Check CHECK = new Check();

    public static void main(String[] args) {
        box();
        covers();
        words();
        word();
        refused();
        CHECK.end();
    }

    private static void box() {
        RoundMaps maps = Check.onLine("x", 0, 1024, 4);
        CHECK.is("37: to below from", maps.box(2, 1), -1);
        CHECK.is("37: no from", maps.box(-1, 1), -1);
        CHECK.is("37: no to", maps.box(1, 4), -1);
        for (int i = 0; i < 6; i++) {
            CHECK.is("37: box " + i, maps.box(0, i % 4), i);
        }
        CHECK.is("37: a seventh", maps.box(0, 0), -1);
        CHECK.is("37: how many", maps.count(4), 6);
    }

    private static void covering(String text, int[] i, int[] j, int due) {
        RoundMaps maps = Check.onLine(text, 0, 1024, 8);
        maps.box(i[0], i[1]);
        maps.box(j[0], j[1]);
        CHECK.is("38: covers of " + text, maps.covers(0, 1), due);
    }

    private static void covers() {
        int[] half = {0, 3};
        int[] all = {0, 7};
        covering("2*x", half, all, 1);
        covering("1-2*x", half, all, 1);
        covering("2*x-1/999", half, all, 0);
        covering("2*x+1/999", half, all, 0);
        covering("2*x", half, new int[] {3, 5}, 1);
        covering("2*x", half, half, 1);
        covering("x", half, half, 1);
        covering("1-x", half, new int[] {4, 7}, 1);
        covering("1-x", half, new int[] {3, 7}, 0);
        covering("x/2", half, half, 0);
        covering("x<1/2?2*x:2-2*x", half, all, 0);
        covering("x<1/2?2*x:2-2*x", new int[] {4, 7}, all, 1);
        covering("(x<1/4?1:2)<3?2*x:x", half, all, 0);
        // an end's image that is not sure is too little
        covering("2*x+n", half, all, 1);
        RoundMaps maps = Check.onLine("2*x+n", 0, 1024, 8);
        maps.box(0, 3);
        maps.box(0, 7);
        maps.box(1, 6);
        maps.letter(1, -1, 0);
        CHECK.is("38: noise below", maps.covers(0, 1), 0);
        maps.letter(1, 0, 1);
        CHECK.is("38: noise above", maps.covers(0, 1), 0);
        maps.letter(1, -1, 1);
        CHECK.is("38: room for noise", maps.covers(0, 2), 1);
        CHECK.is("38: its least point goes too far", maps.covers(2, 2), 0);
        Check.map(maps, "1-2*x+n");
        CHECK.is("38: falling", maps.covers(0, 2), 1);
        CHECK.is("38: falling, no room", maps.covers(0, 1), 0);
    }

    private static void words() {
        RoundMaps maps = Check.onLine("4*x*(1-x)", 0, 1024, 4);
        CHECK.is("39: no boxes", maps.words(1, 0), 0);
        for (int i = 0; i < 6; i++) {
            maps.box(i % 2 == 0 ? 0 : 2, i % 2 == 0 ? 1 : 3);
        }
        CHECK.is("39: of 1", maps.words(1, 0), 6);
        CHECK.is("39: round, of 1", maps.words(1, 1), 6);
        CHECK.is("39: of 20", maps.words(20, 0), 3656158440062976L);
        CHECK.is("39: round, of 20", maps.words(20, 1), 3656158440062976L);
        CHECK.is("39: n 0", maps.words(0, 0), -1);
        CHECK.is("39: n 21", maps.words(21, 0), -1);
        CHECK.is("39: what 2", maps.words(1, 2), -1);
        CHECK.is("39: what -1", maps.words(1, -1), -1);
        fibonacci();
    }

    /** The first BOX COVERS both, the second the first alone: numbers of Fibonacci, and round those of Lucas. */
    private static void fibonacci() {
        RoundMaps maps = Check.onLine("x<3/2?3*x:3-x", 0, 3072, 3);
        maps.box(0, 0);
        maps.box(2, 2);
        int[] due = {1, 1, 1, 0};
        for (int i = 0; i < 4; i++) {
            CHECK.is("38: cover " + i, maps.covers(i / 2, i % 2), due[i]);
        }
        long[] fibonacci = {2, 3, 5, 8, 13};
        long[] lucas = {1, 3, 4, 7, 11};
        for (int n = 1; n <= 5; n++) {
            CHECK.is("39: Fibonacci, of " + n, maps.words(n, 0), fibonacci[n - 1]);
            CHECK.is("39: Lucas, of " + n, maps.words(n, 1), lucas[n - 1]);
        }
        CHECK.is("39: Fibonacci, of 20", maps.words(20, 0), 17711);
        CHECK.is("39: Lucas, of 20", maps.words(20, 1), 15127);
        CHECK.is("40: 0 1 0 0 1", maps.word(0x10010, 5), 1);
        CHECK.is("40: 0 1 1 0", maps.word(0x0110, 4), 0);
    }

    private static void word() {
        RoundMaps maps = Check.onLine("3*x/2", 0, 3072, 3);
        maps.box(0, 1);
        maps.box(0, 0);
        for (int n = 1; n <= 20; n++) {
            CHECK.is("39: one way alone, of " + n, maps.words(n, 0), n + 1);
            CHECK.is("39: round it comes to itself alone, of " + n, maps.words(n, 1), 2);
        }
        CHECK.is("40: 0", maps.word(0, 1), 1);
        CHECK.is("40: 1", maps.word(1, 1), 1);
        CHECK.is("40: 0 1", maps.word(0x10, 2), 1);
        CHECK.is("40: 1 0", maps.word(0x01, 2), 0);
        CHECK.is("40: 0 0 1 1", maps.word(0x1100, 4), 1);
        CHECK.is("40: 0 1 0", maps.word(0x010, 3), 0);
        CHECK.is("40: of 8", maps.word(0x11111000, 8), 1);
        CHECK.is("40: of 8, no word", maps.word(0x01111000, 8), 0);
        CHECK.is("40: the last is no box", maps.word(0x90000000, 8), -1);
        CHECK.is("40: it isn't asked", maps.word(0x90000000, 7), 1);
        CHECK.is("40: no box comes first", maps.word(0x201, 3), -1);
        CHECK.is("40: n 0", maps.word(0, 0), -1);
        CHECK.is("40: n 9", maps.word(0, 9), -1);
    }

    private static void refused() {
        RoundMaps maps = Check.onLine("x", 0, 1024, 4);
        maps.box(0, 1);
        int[] none = {-1, 1, 6};
        for (int bad : none) {
            CHECK.is("38: no i", maps.covers(bad, 0), -1);
            CHECK.is("38: no j", maps.covers(0, bad), -1);
        }
        Check.map(maps, "x;y");
        CHECK.is("37: no NET", maps.box(0, 0), -1);
        CHECK.is("38: no NET", maps.covers(0, 0), -1);
        CHECK.is("39: no NET", maps.words(1, 0), -1);
        CHECK.is("40: no NET", maps.word(0, 1), -1);
        maps.grid(0, 4, 2, 0, 4, 2);
        CHECK.is("37: of the plane", maps.box(0, 0), -1);
        CHECK.is("39: of the plane", maps.words(1, 0), -1);
        maps = new RoundMaps();
        CHECK.is("37: no MAP", maps.box(0, 0), -1);
        CHECK.is("39: no MAP", maps.words(1, 0), -1);
        CHECK.is("40: no MAP", maps.word(0, 1), -1);
    }
}
