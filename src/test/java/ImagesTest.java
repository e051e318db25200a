/** Promises 10 to 13. */
public final class ImagesTest {
    private static final Check CHECK = new Check();

    public static void main(String[] args) {
        numbers();
        spans();
        products();
        tests();
        plane();
        refusedShut();
        finer();
        slope();
        orbit();
        CHECK.end();
    }

    private static void image(String text, int lo, int hi, int... due) {
        RoundMaps maps = Check.with(text);
        CHECK.is("10: undecided of " + text, maps.shut(lo, hi, 0, 0), 0);
        CHECK.row("10: " + text + " of " + lo + ", " + hi, maps, due);
    }

    private static void numbers() {
        image("1-2-3", 0, 0, -4096, -4096);
        image("8/2/2", 0, 0, 2048, 2048);
        image("2*3/4*2", 0, 0, 3072, 3072);
        image("1+2*3", 0, 0, 7168, 7168);
        image("(1+2)*3", 0, 0, 9216, 9216);
        image("-2*3", 0, 0, -6144, -6144);
        image("2*-3", 0, 0, -6144, -6144);
        image("2--3", 0, 0, 5120, 5120);
        image("A-3-5", 0, 0, -2048, -2048);
        image("-A-3", 0, 0, -3072, -3072);
        image("A(1-3)*2", 0, 0, 4096, 4096);
        image("0012", 0, 0, 12288, 12288);
        image("9999", 0, 0, 10238976, 10238976);
        image("1/3", 0, 0, 341, 342);
        image("1/3*3", 0, 0, 1023, 1026);
        image("1/999", 0, 0, 1, 2);
        image("-1/3", 0, 0, -342, -341);
        image("1<2?3:4+5", 0, 0, 3072, 3072);
        image("2<1?3:4+5", 0, 0, 9216, 9216);
        image("1<2?1<0?5:6:7", 0, 0, 6144, 6144);
        image("(2<1?3:4)+5", 0, 0, 9216, 9216);
        image("y+1", 0, 0, 1024, 1024);
        CHECK.run(new RoundMaps(), "10: y is 0 on the line", "map y+x = 0", "shut 1 2 3 40 = 0 : 1 2",
            "finer 1 2 3 40 2 = 1 : 1 2", "orbit 5 77 0 = 0 : 5 5", "orbit 5 77 1 = 0 : 5 5", "orbit 5 77 2 = 0 : 5 5",
            "slope 3 4 = 0 : 1024 1024");
    }

    private static void spans() {
        image("x*x", -3, 2, -1, 1);
        image("x*x", -3, -3, 0, 1);
        image("x*-x", 3, 3, -1, 0);
        image("x/3", -4, 4, -2, 2);
        image("x/3", 4, 5, 1, 2);
        image("x/1", -5, 7, -5, 7);
        image("x/999", -999, 999, -1, 1);
        image("x/999", -1000, 1000, -2, 2);
        image("x/999", -998, 998, -1, 1);
        image("x-x", 1, 5, -4, 4);
        image("-x", 1, 5, -5, -1);
        image("Ax", 1, 5, 1, 5);
        image("Ax", 0, 5, 0, 5);
        image("Ax", -5, 0, 0, 5);
        image("Ax", -5, -2, 2, 5);
        image("Ax", -5, -1, 1, 5);
        image("Ax", -5, 1, 0, 5);
        image("Ax", -1, 0, 0, 1);
        image("Ax", -1, 1, 0, 1);
        image("Ax", -1, 5, 0, 5);
        image("Ax", 0, 0, 0, 0);
        image("Ax", -1, -1, 1, 1);
        image("Ax", -5, 4, 0, 5);
        image("Ax", -5, 6, 0, 6);
        image("x*(1-x)", 0, 1024, 0, 1024);
        image("x*x*x", 1000000, 1000000, 2147483647, 2147483647);
        image("x*x*x", -1000000, 1000000, -2147483647, 2147483647);
        image("x*x*x-x*x*x", 1000000, 1000000, 0, 0);
        image("x*x*x/2", 1000000, 1000000, 1073741823, 1073741824);
        image("x*x*x+x*x*x-1", 1000000, 1000000, 2147482623, 2147482623);
        image("-x*x*x-1", 1000000, 1000000, -2147483647, -2147483647);
    }

    /** Each of the four products of ends is the least once, and the greatest. */
    private static void products() {
        CHECK.run(new RoundMaps(), "10: PRODUCT", "map x*a = 0", "letter 0 -5120 7168",
            "shut -3072 2048 0 0 = 0 : -21504 15360", "letter 0 5120 7168", "shut 2048 3072 0 0 = 0 : 10240 21504",
            "shut -3072 -2048 0 0 = 0 : -21504 -10240", "letter 0 -7168 -5120",
            "shut 2048 3072 0 0 = 0 : -21504 -10240", "shut -3072 -2048 0 0 = 0 : 10240 21504", "letter 0 -7168 5120",
            "shut -2048 3072 0 0 = 0 : -21504 15360", "letter 0 0 0", "shut -9 9 0 0 = 0 : 0 0", "letter 0 1 1",
            "shut -1024 1024 0 0 = 0 : -1 1", "shut -1025 1025 0 0 = 0 : -2 2", "shut 1 1 0 0 = 0 : 0 1",
            "shut -1 -1 0 0 = 0 : -1 0", "shut 1023 1023 0 0 = 0 : 0 1", "shut -1023 -1023 0 0 = 0 : -1 0");
    }

    private static void test(String text, int lo, int hi, int undecided, int... due) {
        RoundMaps maps = Check.with(text);
        CHECK.is("10: undecided of " + text, maps.shut(lo, hi, 0, 0), undecided);
        CHECK.row("10: " + text + " of " + lo + ", " + hi, maps, due);
    }

    private static void tests() {
        test("x<1?5:7", 0, 1023, 0, 5120, 5120);
        test("x<1?5:7", 1024, 2000, 0, 7168, 7168);
        test("x<1?5:7", 1023, 1024, 1, 5120, 7168);
        test("1<x?5:7", 1024, 1024, 0, 7168, 7168);
        test("1<x?5:7", 1025, 1030, 0, 5120, 5120);
        test("1<x?5:7", 1024, 1025, 1, 5120, 7168);
        test("x<x?5:7", 3, 3, 0, 7168, 7168);
        test("x<x?5:7", 3, 4, 1, 5120, 7168);
        test("(x<1?x:2)<1?x<1?1:2:3", 0, 2048, 3, 1024, 3072);
        test("(x<1?x:2)<1?x<1?1:2:3", 0, 1000, 0, 1024, 1024);
        test("(x<1?x:2)<1?x<1?1:2:3", 1024, 2000, 0, 3072, 3072);
        test("(x<1?1:2)<3?x:9", 0, 2048, 1, 0, 2048);
        test("1<2?7:(x<1?3:4)", 0, 2048, 0, 7168, 7168);
        test("(x<1?1:2)+(x<1?1:2)", 0, 2048, 2, 2048, 4096);
        test("x<1?x<0?1:2:x<2?3:4", -10, 3000, 3, 1024, 4096);
        test("x<1?x:x+(x<1?1:2)", 1000, 1100, 2, 1000, 3148);
        test("x<1?1<2?5:6:7", 0, 2048, 1, 5120, 7168);
        test("x<1?2<1?5:6:7", 0, 2048, 1, 6144, 7168);
        test("x<1?7:1<2?5:6", 0, 2048, 1, 5120, 7168);
        test("x+1<2*x-1?x+1:x-1", 2048, 2048, 0, 1024, 1024);
        test("x+1<2*x-1?x+1:x-1", 2049, 2049, 0, 3073, 3073);
    }

    private static void plane() {
        RoundMaps maps = Check.with("y+a;x*y-n");
        maps.letter(0, 1, 2);
        maps.letter(1, -3, 3);
        CHECK.is("10: of the plane", maps.shut(0, 1024, 2048, 3072), 0);
        CHECK.row("10: of the plane", maps, 2049, 3074, -3, 3075);
        CHECK.is("10: y's test", Check.with("x;y<1?x:y").shut(0, 5, 1000, 1100), 1);
    }

    private static void refusedShut() {
        RoundMaps maps = new RoundMaps();
        CHECK.is("10: no MAP", maps.shut(0, 1, 0, 1), -1);
        maps = Check.with("x");
        maps.shut(1, 2, 0, 0);
        CHECK.is("10: lo above hi", maps.shut(1, 0, 0, 0), -1);
        CHECK.is("10: y's lo above hi", maps.shut(0, 1, 1, 0), -1);
        CHECK.is("10: too low", maps.shut(-1000001, 0, 0, 0), -1);
        CHECK.is("10: too high", maps.shut(0, 1000001, 0, 0), -1);
        CHECK.is("10: y too low", maps.shut(0, 0, -1000001, 0), -1);
        CHECK.is("10: y too high", maps.shut(0, 0, 0, 1000001), -1);
        CHECK.row("10: the ROW stays", maps, 1, 2);
        CHECK.is("10: the furthest", maps.shut(-1000000, 1000000, -1000000, 1000000), 0);
    }

    private static void finer() {
        RoundMaps maps = Check.with("x*(1-x)");
        int[] widest = {1024, 512, 384, 320};
        for (int k = 0; k < 4; k++) {
            CHECK.is("11: k " + k, maps.finer(0, 1024, 0, 0, k), widest[k]);
            CHECK.row("11: k " + k, maps, 0, widest[k]);
        }
        CHECK.is("11: odd", maps.finer(0, 1025, 0, 0, 1), 515);
        CHECK.row("11: odd", maps, -2, 513);
        finerCuts();
        CHECK.is("11: k 4", maps.finer(0, 1, 0, 0, 4), -1);
        CHECK.is("11: k -1", maps.finer(0, 1, 0, 0, -1), -1);
        CHECK.is("11: lo above hi", maps.finer(1, 0, 0, 0, 1), -1);
        CHECK.is("11: y too high", maps.finer(0, 1, 0, 1000001, 1), -1);
        CHECK.row("11: the ROW stays", maps, -2, 513);
        CHECK.is("11: no MAP", new RoundMaps().finer(0, 1, 0, 0, 1), -1);
        maps = Check.with("1024*x*(300-1024*x)");
        CHECK.is("11: cut at 128", maps.finer(0, 257, 0, 0, 1), 45264896);
        maps = Check.with("1024*x*(-300-1024*x)");
        CHECK.is("11: cut at -129", maps.finer(-257, 0, 0, 0, 1), 45001728);
        maps = Check.with("x*(1-x);y*(1-y)+1");
        CHECK.is("11: of the plane", maps.finer(0, 1024, 0, 1024, 1), 512);
        CHECK.row("11: of the plane", maps, 0, 512, 1024, 1536);
        maps = Check.with("x*x*x");
        CHECK.is("11: BIG at most", maps.finer(-1000000, 1000000, 0, 0, 2), 2147483647);
        CHECK.row("11: BIG at most", maps, -2147483647, 2147483647);
    }

    /** 0 .. 7 is cut at 3; at 1, 3, 5; at 0, 1, 2, .. 6; a lo below 0 is added to what is cut. */
    private static void finerCuts() {
        String above = "map 1024*x*(6-1024*x) = 0";
        CHECK.run(new RoundMaps(), "11: cut", above, "finer 0 7 0 0 0 = 50176 : -7168 43008",
            "finer 0 7 0 0 1 = 28672 : -7168 21504", "finer 0 7 0 0 2 = 22528 : -7168 15360",
            "finer 0 7 0 0 3 = 19456 : -7168 12288", "finer 3 3 0 0 3 = 0 : 9216 9216",
            "finer 0 1 0 0 3 = 6144 : 0 6144");
        String below = "map 1024*x*(0-6-1024*x) = 0";
        CHECK.run(new RoundMaps(), "11: cut below 0", below, "finer -7 0 0 0 2 = 23552 : -7168 16384",
            "finer -7 0 0 0 0 = 50176 : -7168 43008", "finer -3 -3 0 0 3 = 0 : 9216 9216");
    }

    private static void slopeIs(String text, int lo, int hi, int... due) {
        RoundMaps maps = Check.with(text);
        maps.letter(0, 512, 2048);
        CHECK.is("12: slope of " + text, maps.slope(lo, hi), 0);
        CHECK.row("12: slope of " + text, maps, due);
    }

    private static void slope() {
        slopeIs("x", 0, 9, 1024, 1024);
        slopeIs("7", 0, 9, 0, 0);
        slopeIs("a+n+u+d+y", 0, 9, 0, 0);
        slopeIs("-x", 0, 9, -1024, -1024);
        slopeIs("x+x-3*x", 0, 9, -1024, -1024);
        slopeIs("a*x", 0, 9, 512, 2048);
        slopeIs("x*x", -3, 5, -6, 10);
        slopeIs("x*x*x", 1024, 2048, 3072, 12288);
        slopeIs("x*x/3", 4, 5, 2, 4);
        slopeIs("-(x*x)/3", 4, 5, -4, -2);
        slopeIs("A(x-1)", 1024, 2000, 1024, 1024);
        slopeIs("A(x-1)", 0, 1024, -1024, -1024);
        slopeIs("A(2*x-1)", 0, 1024, -2048, 2048);
        slopeIs("Ax", 0, 0, 1024, 1024);
        slopeIs("Ax", 0, 5, 1024, 1024);
        slopeIs("Ax", -1, -1, -1024, -1024);
        slopeIs("Ax", -5, 0, -1024, -1024);
        slopeIs("Ax", -5, 1, -1024, 1024);
        slopeIs("Ax", -1, 5, -1024, 1024);
        slopeIs("A(a*x)", -1, 1, -2048, 2048);
        slopeIs("A(-a*x)", -1, 1, -2048, 2048);
        slopeIs("x<1?3*x:x", 0, 1023, 3072, 3072);
        slopeIs("x<1?3*x:-x", 1024, 2000, -1024, -1024);
        slopeIs("(x<1?1:2)<3?5*x:x", 0, 2048, 5120, 5120);
        slopeIs("x*x*x*x", 1000000, 1000000, 2147483647, 2147483647);
        RoundMaps maps = Check.with("x<1?3*x:x");
        maps.slope(0, 0);
        CHECK.is("12: none", maps.slope(1000, 1100), 1);
        CHECK.row("12: the ROW stays", maps, 3072, 3072);
        CHECK.is("12: none in a product", Check.with("0*(x<1?1:2)").slope(1000, 1100), 1);
        CHECK.is("12: none in a sum", Check.with("x-(x<1?1:2)").slope(1000, 1100), 1);
        CHECK.is("12: none in A", Check.with("A-(x<1?1:2)/2").slope(1000, 1100), 1);
        CHECK.is("12: lo above hi", maps.slope(1, 0), -1);
        CHECK.is("12: too low", maps.slope(-1000001, 0), -1);
        CHECK.is("12: too high", maps.slope(0, 1000001), -1);
        CHECK.is("12: no MAP", new RoundMaps().slope(0, 1), -1);
        CHECK.is("12: of the plane", Check.with("x;y").slope(0, 1), -1);
    }

    private static void orbit() {
        RoundMaps maps = Check.with("2*x");
        CHECK.is("13: no step", maps.orbit(5, 7, 0), 0);
        CHECK.row("13: no step", maps, 5, 5);
        maps.orbit(1, 0, 10);
        CHECK.row("13: ten steps", maps, 1024, 1024);
        maps.orbit(-1, 0, 60);
        CHECK.row("13: 60 steps", maps, -2147483647, -2147483647);
        CHECK.is("13: n -1", maps.orbit(0, 0, -1), -1);
        CHECK.is("13: n 61", maps.orbit(0, 0, 61), -1);
        CHECK.is("13: x too high", maps.orbit(1000001, 0, 1), -1);
        CHECK.is("13: y too low", maps.orbit(0, -1000001, 1), -1);
        CHECK.is("13: no MAP", new RoundMaps().orbit(0, 0, 1), -1);
        CHECK.row("13: the ROW stays", maps, -2147483647, -2147483647);
        maps = Check.with("x<1+n?2:1");
        maps.letter(1, -1024, 1024);
        CHECK.is("13: undecided", maps.orbit(1024, 0, 3), 3);
        CHECK.row("13: undecided", maps, 1024, 2048);
        maps = Check.with("y;x+y");
        maps.orbit(0, 1, 10);
        CHECK.row("13: of the plane", maps, 55, 55, 89, 89);
        maps = Check.with("x+d");
        maps.letter(2, -1, 1);
        maps.drive(2, 2, 100, 900);
        maps.orbit(0, 0, 4);
        CHECK.row("13: driven, then told", maps, 1098, 1102);
        maps.shut(0, 0, 0, 0);
        CHECK.row("13: d is what it was", maps, -1, 1);
    }
}
