/**
 * The first and the last values that each range allows, and those beside them; nothing there yet, and as many as
 * there may be.
 */
public final class BoundsTest {
    private static final Check CHECK = new Check();

    public static void main(String[] args) {
        nothingYet();
        spansOfOneNumber();
        beyondBig();
        maps();
        lettersAndDrive();
        images();
        gridsOfLine();
        gridsOfPlane();
        fine();
        allLeave();
        oneCell();
        manyCells();
        sets();
        tallGrid();
        smallBehindGreat();
        ringsAndWords();
        steering();
        sights();
        homes();
        otherKind();
        counts();
        CHECK.end();
    }

    private static void run(String promise, String... calls) {
        CHECK.run(new RoundMaps(), promise, calls);
    }

    private static void nothingYet() {
        run("1: a new object", "blind = 0", "end 1 = 0", "end 0 = 1", "map = -1", "count 0 = 0", "count 9 = -1",
            "use 0 = 0", "has 0 0 = 0", "has 1 0 = 0", "has 2 0 = 0", "has 3 0 = 0", "has 3 1 = -1", "many 3 = 0 :",
            "cell 0 0 = 0", "cell 1024 MAX = 0", "cell 1025 0 = -1", "cell -1 0 = -1", "sight 0 9 = 0",
            "sight 1 0 = -1", "homes 0 0 = 0", "homes 0 1 = 0", "plan 0 = -1", "steps 0 = -1", "fine 2 = 0",
            "push 5 = 2", "put 0 0 1 = 1", "homes 0 0 = 1", "join 0 1 4 = 0", "join 0 1 0 = 1", "see 9 = 1",
            "row 0 = " + State.THROWS);
        run("1: its grid", "map x/2 = 0", "arrows = 1", "next 0 = 1 : 0", "back 0 = 1 : 0", "leaves 0 = 0", "heaps = 1",
            "heap 0 = 0", "ring 0 1 = 3", "stable 0 1 = 1", "rings 60 = 1 : 0", "change 1 = 0 : 1", "words 1 0 = 0",
            "word 0 1 = -1", "covers 0 0 = -1", "sense 0 = 1", "many 0 = 1 : 0", "trap 1 = 1", "core 1 2 = 0",
            "reach 1 2 3 = 1", "steer 1 3 60 = 0", "steps 0 = -1", "safe 0 1 = 1", "box 0 0 = 0");
    }

    private static void spansOfOneNumber() {
        run("Terms 1: one number", "map x+a = 0", "letter 0 7 7 = 1", "shut 3 3 0 0 = 0 : 10 10",
            "slope 3 3 = 0 : 1024 1024", "finer 3 3 5 5 3 = 0 : 10 10", "finer 3 3 5 5 0 = 0 : 10 10",
            "change 12 = 0 : 1 1 1 1 1 1 1 1 1 1 1 1", "letter 0 1025 1025 = 1", "change 2 = 0 : 0 0",
            "map x<a?1:2 = 1", "shut 1024 1024 0 0 = 0 : 1024 1024", "shut 1025 1025 0 0 = 0 : 2048 2048",
            "map x*x = 2", "shut -1 -1 0 0 = 0 : 0 1", "map A(x-y);x<y?x:y = 3", "shut 4 4 9 9 = 0 : 5 5 4 4",
            "shut 9 9 4 4 = 0 : 5 5 4 4", "finer 9 9 4 4 3 = 0 : 5 5 4 4");
    }

    private static void beyondBig() {
        run("Terms 1: SUMS up to BIG", "map d+n = 0", "drive 2 1 2147483646 0 = 1",
            "orbit 0 0 1 = 0 : 2147483646 2147483646", "letter 1 0 1", "orbit 0 0 1 = 0 : 2147483646 2147483647",
            "letter 1 1 2", "orbit 0 0 1 = 0 : 2147483647 2147483647", "letter 1 1000000 1000000",
            "orbit 0 0 1 = 0 : 2147483647 2147483647", "drive 2 1 -2147483646 0 = 1", "letter 1 -1 0",
            "orbit 0 0 1 = 0 : -2147483647 -2147483646", "letter 1 -2 -1", "orbit 0 0 1 = 0 : -2147483647 -2147483647",
            "letter 1 -1000000 0", "orbit 0 0 1 = 0 : -2147483647 -2147483646");
        run("Terms 1: DIFFERENCES up to BIG", "map d-n = 0", "drive 2 1 2147483646 0 = 1", "letter 1 -1 0",
            "orbit 0 0 1 = 0 : 2147483646 2147483647", "letter 1 -2 -1", "orbit 0 0 1 = 0 : 2147483647 2147483647",
            "drive 2 1 -2147483646 0 = 1", "letter 1 0 1", "orbit 0 0 1 = 0 : -2147483647 -2147483646", "letter 1 1 2",
            "orbit 0 0 1 = 0 : -2147483647 -2147483647", "map n-d = 1", "orbit 0 0 1 = 0 : 2147483647 2147483647");
        run("Terms 1: beyond BIG it is BIG for what follows", "map d+n-n = 0", "letter 1 5 5",
            "drive 2 1 2147483647 0 = 1", "orbit 0 0 1 = 0 : 2147483642 2147483642", "drive 2 1 -2147483647 0 = 1",
            "letter 1 -5 -5", "orbit 0 0 1 = 0 : -2147483642 -2147483642", "map d*2/2 = 1",
            "orbit 0 0 1 = 0 : -1073741824 -1073741823", "map d*2-d = 2", "orbit 0 0 1 = 0 : 0 0", "map A(d-n-6*n) = 3",
            "letter 1 5 5", "orbit 0 0 1 = 0 : 2147483647 2147483647");
        run("Terms 1: PRODUCTS up to BIG", "map d*n = 0", "drive 2 1 2147483646 0 = 1", "letter 1 1024 1024",
            "orbit 0 0 1 = 0 : 2147483646 2147483646", "letter 1 1024 1025", "orbit 0 0 1 = 0 : 2147483646 2147483647",
            "letter 1 -1024 -1024", "orbit 0 0 1 = 0 : -2147483646 -2147483646", "letter 1 -1025 1025",
            "orbit 0 0 1 = 0 : -2147483647 2147483647", "map d*d = 1", "orbit 0 0 1 = 0 : 2147483647 2147483647",
            "map -d*d = 2", "orbit 0 0 1 = 0 : -2147483647 -2147483647", "orbit 0 0 60 = 0 : 0 0");
        run("Terms 1: SLOPES up to BIG", "map -x*x*x*x = 0", "slope 1000000 1000000 = 0 : -2147483647 -2147483647",
            "slope -1000000 1000000 = 0 : -2147483647 2147483647", "map x*x*x+x*x*x-x*x*x = 1",
            "slope 1000000 1000000 = 0 : 0 0", "map 9999*9999*x = 2", "slope 0 0 = 0 : 2147483647 2147483647",
            "map 9999*9999*x/2 = 3", "slope 0 0 = 0 : 1073741823 1073741824");
        run("Terms 3: SLOPES of many steps up to BIG", "map 9999*x = 0", "grid 0 1 1 0 0 1 = 1", "stable 0 1 = 0",
            "stable 0 12 = 0", "map 0-9999*x = 1", "stable 0 11 = 0", "stable 0 12 = 0", "ring 0 12 = 3");
        run("11: as wide as BIG at most", "map x*x*a = 0", "letter 0 -1000000 1000000",
            "finer 1000000 1000000 0 0 0 = 2147483647", "map d = 1", "letter 2 -1000000 1000000",
            "finer 0 0 0 0 3 = 2000000 : -1000000 1000000", "map d*1073;x = 2",
            "finer 0 1 0 0 1 = 2146000000 : -1073000000 1073000000 0 1", "map d*1074;x = 3",
            "finer 0 1 0 0 1 = 2147483647 : -1074000000 1074000000 0 1");
    }

    private static void maps() {
        run("4: four of them", "use 0 = 0", "map x = 0", "use 0 = 1", "use 1 = 0", "map x+1 = 1", "use 1 = 1",
            "use 2 = 0", "map y;x = 2", "count 1 = 1", "map z = -1", "count 9 = 2", "map  = -1", "count 9 = 2",
            "count 0 = 3", "map x+3 = 3", "count 1 = 0", "use 4 = 0", "count 9 = 3", "map x+4 = -100", "count 0 = 4",
            "count 7 = 0", "count 9 = 3", "shut 0 0 0 0 = 0 : 3072 3072", "use 0 = 1", "shut 0 0 0 0 = 0 : 0 0",
            "map x+5 = -100", "count 9 = 0", "use 3 = 1", "shut 0 0 0 0 = 0 : 3072 3072", "use 2 = 1",
            "shut 1 2 3 4 = 0 : 3 4 1 2", "use -1 = 0", "count 9 = 2");
    }

    private static void lettersAndDrive() {
        for (int what = 0; what < 3; what++) {
            String letter = "letter " + what + " ";
            run("6: " + letter, "map " + "and".charAt(what) + " = 0", "shut 9 9 9 9 = 0 : 0 0",
                letter + "1000000 1000000 = 1", "shut 9 9 9 9 = 0 : 1000000 1000000", letter + "-1000000 -1000000 = 1",
                "shut 9 9 9 9 = 0 : -1000000 -1000000", letter + "999999 1000000 = 1",
                "shut 9 9 9 9 = 0 : 999999 1000000", letter + "999999 1000001 = 0", letter + "-1000000 -999999 = 1",
                letter + "-1000001 -999999 = 0", "shut 9 9 9 9 = 0 : -1000000 -999999", letter + "0 -1 = 0",
                letter + "-1 0 = 1", "shut 9 9 9 9 = 0 : -1 0");
        }
        for (int kind = 0; kind < 3; kind++) {
            String drive = "drive " + kind + " ";
            run("8: " + drive, "map x+d = 0", "letter 2 1000 1000", drive + "20 1 0 = 20", "orbit 0 0 19 = 0 : 19 19",
                "orbit 0 0 20 = 0 : 20 20", "orbit 0 0 21 = 0 : 1020 1020", drive + "21 9 9 = -1",
                drive + "-1 9 9 = -2", "orbit 0 0 21 = 0 : 1020 1020", drive + "1 7 5 = 1",
                "orbit 0 0 2 = 0 : 1007 1007", drive + "0 9 9 = 0", "orbit 0 0 2 = 0 : 2000 2000",
                drive + "2 -128 255 = 2", "orbit 0 0 1 = 0 : -128 -128", "orbit 0 0 2 = 0 : -1 -1",
                "drive 3 0 0 0 = -3", "orbit 0 0 2 = 0 : 2000 2000");
        }
        run("8: the lowest bits, with their sign", "map x*0+d = 0", "drive 0 3 300 100 = 3", "orbit 0 0 1 = 0 : 44 44",
            "orbit 0 0 2 = 0 : -112 -112", "orbit 0 0 3 = 0 : -12 -12", "drive 0 2 128 127 = 2",
            "orbit 0 0 1 = 0 : -128 -128", "orbit 0 0 2 = 0 : -1 -1", "drive 0 2 MIN MIN = 2", "orbit 0 0 2 = 0 : 0 0",
            "drive 1 3 40000 30000 = 3", "orbit 0 0 1 = 0 : -25536 -25536", "orbit 0 0 2 = 0 : 4464 4464",
            "orbit 0 0 3 = 0 : -31072 -31072", "drive 1 2 32768 -1 = 2", "orbit 0 0 1 = 0 : -32768 -32768",
            "orbit 0 0 2 = 0 : 32767 32767", "drive 2 2 2147483646 3 = 2", "orbit 0 0 1 = 0 : 2147483646 2147483646",
            "orbit 0 0 2 = 0 : -2147483647 -2147483647", "drive 2 2 40000 30000 = 2", "orbit 0 0 2 = 0 : 70000 70000",
            "drive 3 MIN 0 0 = -3", "orbit 0 0 2 = 0 : 0 0", "drive 3 20 0 0 = -3");
    }

    private static void images() {
        run("10: the furthest NUMBERS", "map x = 0", "shut -1000000 1000000 0 0 = 0 : -1000000 1000000",
            "shut -1000000 -1000000 -1000000 -1000000 = 0 : -1000000 -1000000",
            "shut 1000000 1000000 1000000 1000000 = 0 : 1000000 1000000", "finer -1000000 1000000 0 0 3 = 2000000",
            "finer 1000000 1000000 1000000 1000000 0 = 0 : 1000000 1000000",
            "finer -1000000 -1000000 -1000000 -1000000 3 = 0 : -1000000 -1000000",
            "slope -1000000 1000000 = 0 : 1024 1024", "slope -1000000 -1000000 = 0 : 1024 1024",
            "slope 1000000 1000000 = 0 : 1024 1024", "orbit -1000000 -1000000 0 = 0 : -1000000 -1000000",
            "orbit 1000000 1000000 60 = 0 : 1000000 1000000", "map y;x+1/999 = 1",
            "shut -1000000 1000000 -1000000 1000000 = 0 : -1000000 1000000 -999999 1000002",
            "orbit 1000000 -1000000 0 = 0 : 1000000 1000000 -1000000 -1000000", "orbit 0 0 60 = 0 : 30 60 30 60",
            "orbit 0 0 59 = 0 : 29 58 30 60", "orbit 0 0 1 = 0 : 0 0 1 2");
        run("10: UNDECIDED tests, none and many", "map x<1?1:x<1?2:x<1?3:x<1?4:x<1?5:x<1?6:x<1?7:x<1?8:x<1?9:0 = 0",
            "shut 0 1024 0 0 = 9 : 0 9216", "shut 0 1023 0 0 = 0 : 1024 1024", "shut 1024 1025 0 0 = 0 : 0 0",
            "slope 0 1024 = 1", "slope 0 1023 = 0 : 0 0", "orbit 1023 0 60 = 0 : 0 0", "orbit 0 0 1 = 0 : 1024 1024");
    }

    private static void gridsOfLine() {
        run("14: of the line", "grid 0 1024 1 0 0 1 = -1", "map x = 0", "grid -1000000 1000000 16 0 0 1 = 16",
            "cell -1000000 0 = 0", "cell -875000 0 = 0", "cell -874999 0 = 1", "cell 1000000 0 = 15",
            "cell 1000001 0 = -1", "grid -1000000 1000000 1 0 0 1 = 1", "grid 999999 1000000 1 0 0 1 = 1",
            "cell 999999 0 = 0", "cell 999998 0 = -1", "grid 999999 1000001 1 0 0 1 = -1",
            "grid -1000000 -999999 1 0 0 1 = 1", "cell -1000000 0 = 0", "grid -1000001 -999999 1 0 0 1 = -1",
            "grid 0 16 16 0 0 1 = 16", "cell 16 0 = 15", "cell 15 0 = 14", "next 15 = 2 : 14 15",
            "grid 0 17 17 0 0 1 = -1", "grid 0 1 2 0 0 1 = -1", "grid 0 2 2 0 0 1 = 2", "grid 0 3 2 0 0 1 = -1",
            "grid 0 4 2 0 0 1 = 2", "grid 0 -4 2 0 0 1 = -1", "grid 0 0 1 0 0 1 = -1", "grid 0 1 1 0 0 0 = -1",
            "grid 0 1 1 0 0 2 = -1", "grid 0 1 1 0 1 1 = -1", "grid 0 1 1 -1 0 1 = -1", "count 2 = 2",
            "grid 0 1 1 0 0 1 = 1");
    }

    private static void gridsOfPlane() {
        run("14: of the plane", "map x;y = 0", "grid 0 1 1 0 1 1 = 1", "grid 0 1 1 0 0 1 = -1", "grid 0 1 1 1 0 1 = -1",
            "grid 0 16 16 0 8 8 = 128", "grid 0 16 16 0 9 9 = -1", "grid 0 8 8 0 16 16 = 128",
            "grid 0 9 9 0 16 16 = -1", "grid 0 16 16 0 1 1 = 16", "grid 0 1 1 0 16 16 = 16", "next 15 = 2 : 14 15",
            "next 0 = 2 : 0 1", "grid 0 1 1 0 17 17 = -1", "grid 0 17 17 0 1 1 = -1", "grid 0 11 11 0 11 11 = 121",
            "grid 0 9 9 0 14 14 = 126", "grid 0 12 12 0 11 11 = -1", "grid 0 10 10 0 13 13 = -1", "count 2 = 126",
            "grid -1000000 1000000 16 -1000000 1000000 8 = 128", "cell 1000000 1000000 = 127",
            "cell 1000000 1000001 = -1", "cell 1000000 750000 = 111", "cell 1000000 750001 = 127",
            "cell -1000000 -1000000 = 0", "cell -1000000 -1000001 = -1", "grid 0 1 1 -1000000 -999999 1 = 1",
            "grid 0 1 1 -1000001 -999999 1 = -1", "grid 0 1 1 999999 1000000 1 = 1", "grid 0 1 1 999999 1000001 1 = -1",
            "grid 0 1 1 0 1 2 = -1", "grid 0 1 1 0 3 2 = -1", "grid 0 1 1 0 4 2 = 2", "grid 0 1 1 0 -4 2 = -1",
            "grid 0 1 0 0 4 2 = -1", "grid 0 1 1 0 4 0 = -1", "count 2 = 2", "cell 1 4 = 1", "cell 0 2 = 0",
            "cell 1 3 = 1", "cell 1 5 = -1", "cell 2 4 = -1", "cell -1 0 = -1");
    }

    private static void fine() {
        // PARTS of 0 .. 7: 0, 1, 3, 5, 7 (of 4), 0, 3, 7 (of 2)
        run("15: FINE", "map x-x = 0", "grid -7 7 2 0 0 1 = 2", "fine -1 = -1", "fine 0 = 0", "next 1 = 2 : 0 1",
            "finer 0 7 0 0 0 = 14 : -7 7", "finer 0 7 0 0 1 = 8 : -4 4", "finer 0 7 0 0 2 = 4 : -2 2",
            "finer 0 7 0 0 3 = 2 : -1 1", "grid 0 7 1 0 0 1 = 1", "map x*x*256-x*n = 1", "letter 1 256 256",
            "fine 1 = 0", "fine 2 = 1", "fine 3 = -1", "fine 2 = 2", "count 8 = 2", "fine 0 = 2", "count 8 = 0");
        run("15: FINE of the plane", "map (x-x)/2;(y-y)/2 = 0", "grid -8 8 4 -8 8 4 = 16", "next 0 = 4 : 5 6 9 10",
            "map x-x;(y-y)*2 = 1", "next 0 = 16", "leaves 0 = 0", "map x-x;(y-y)*4 = 2", "leaves 0 = 1", "fine 1 = 0",
            "leaves 0 = 0", "map x-x;(y-y)*8 = 3", "leaves 0 = 1", "fine 2 = 1", "leaves 0 = 0", "fine 1 = 2",
            "leaves 0 = 1");
        run("15: FINE, x alone on the line", "map x-x = 0", "grid -8 8 2 0 0 1 = 2", "leaves 0 = 0", "map 2*(x-x) = 1",
            "leaves 0 = 1", "fine 1 = 0", "leaves 0 = 0", "map 4*(x-x) = 2", "leaves 0 = 1", "fine 2 = 1",
            "leaves 0 = 0", "map 5*(x-x) = 3", "leaves 0 = 1");
    }

    private static void allLeave() {
        run("16: no ARROWS at all", "map x+9999 = 0", "grid 0 1024 4 0 0 1 = 4", "arrows = 0", "next 0 = 0 :",
            "back 3 = 0 :", "leaves 0 = 1", "leaves 3 = 1", "join 0 0 4 = 4", "core 0 1 = 0", "reach 0 1 0 = 0",
            "reach 0 1 1 = 0", "reach 0 1 2 = 4", "reach 0 1 3 = 0", "put 2 3 1 = 1", "reach 2 1 2 = 1",
            "reach 2 1 3 = 3", "many 1 = 3 : 0 1 2", "trap 0 = 0", "trap 3 = 1", "heaps = 0", "heap 0 = -1",
            "order 0 0 = -1", "take 0 1 = -1", "change 3 = 0 : 0 0 0", "rings 1 = 0 :", "rings 60 = 0 :",
            "steer 2 1 60 = 1", "steps 3 = 0", "steps 0 = -1", "safe 0 1 = 0", "sense 3 = 4", "see 0 = 1",
            "sense 3 = 4", "see 0 = 2", "sense 3 = 0");
    }

    private static void oneCell() {
        run("14: one CELL of the plane", "map x/2;y/2 = 0", "grid -2 2 1 -2 2 1 = 1", "arrows = 1", "put 0 0 1 = 1",
            "put 0 1 1 = -1", "trap 0 = 1", "heaps = 1", "order 0 0 = 1", "order 0 1 = -1", "take 0 1 = 1",
            "turning 0 0 = 1 : 1", "turning 0 1 = -1", "turning 1 0 = -1", "rings 1 = 1 : 0", "homes 0 0 = 1",
            "homes 0 1 = 0", "homes 2 0 = 0", "homes 2 1 = 0", "cell 2 2 = 0", "cell 3 2 = -1");
    }

    private static void manyCells() {
        RoundMaps maps = new RoundMaps();
        CHECK.run(maps, "21: SETS fill", "map n;n = 0", "letter 1 0 1024", "grid 0 1024 16 0 1024 8 = 128");
        for (int c = 0; c < 128; c++) {
            CHECK.is("21: one more", maps.put(2, 127 - c, true), c + 1);
            if (c == 0 || c > 36 && c < 43) {
                CHECK.is("23: many", maps.many(2), c + 1);
                CHECK.is("23: told", maps.count(6), Math.min(40, c + 1));
                CHECK.is("23: the first told", maps.row(0), 127 - c);
                CHECK.throwsNone("50: behind the last told", maps, Math.min(40, c + 1));
            }
        }
        CHECK.run(maps, "21: a full SET", "put 2 0 1 = 128", "put 2 127 1 = 128", "put 2 128 1 = -1", "has 2 127 = 1",
            "has 2 128 = -1", "put 2 127 0 = 127", "has 2 127 = 0", "put 2 127 0 = 127", "put 2 63 0 = 126",
            "put 2 64 0 = 125", "has 2 62 = 1", "has 2 65 = 1", "has 2 63 = 0", "has 2 64 = 0", "join 2 1 4 = 3",
            "many 1 = 3 : 63 64 127", "core 2 3 = 125", "reach 1 3 0 = 128", "reach 1 3 1 = 128", "reach 1 3 2 = 3",
            "reach 1 3 3 = 0", "trap 2 = 0", "trap 1 = 0", "join 0 2 4 = 128", "trap 2 = 1", "reach 2 3 2 = 128",
            "steer 2 3 0 = 128", "safe 2 3 = 128", "take 0 3 = 128", "heaps = 1", "heap 127 = 0", "rings 60 = 128",
            "count 6 = 40", "next 127 = 128", "count 6 = 128", "row 127 = 127", "row 128 = " + State.THROWS,
            "back 127 = 128", "count 6 = 128", "row 0 = 0", "row 127 = 127", "sense 3 = 128", "sight 127 9 = 0",
            "sight 127 9 = 9", "sight 128 0 = -1", "see 9 = 1", "sense 3 = 1", "many 3 = 1 : 127", "steer 3 3 60 = 1",
            "steps 127 = 0", "plan 127 = -1", "steps 128 = -1", "plan 128 = -1", "turning 127 127 = 0",
            "turning 0 127 = 0", "turning 0 128 = -1");
    }

    private static void sets() {
        for (int what = 0; what < 5; what++) {
            run("22: of empty SETS, what " + what, "map x = 0", "grid 0 1024 4 0 0 1 = 4",
                "join 0 3 " + what + " = " + (what == 4 ? 4 : 0), "join 0 0 3 = 0",
                "join 0 0 " + what + " = " + (what == 4 ? 4 : 0));
            int[] due = {4, 4, 4, 0, 0};
            run("22: of full SETS, what " + what, "map x = 0", "grid 0 1024 4 0 0 1 = 4", "join 0 0 4 = 4",
                "join 0 3 0 = 4", "join 0 3 " + what + " = " + due[what], "many 0 = 4 : 0 1 2 3",
                "join 0 0 " + what + " = " + due[what]);
        }
        run("22: the first and the last", "map x = 0", "grid 0 1024 4 0 0 1 = 4", "put 0 0 1 = 1", "put 3 3 1 = 1",
            "put 4 3 1 = -1", "put -1 3 1 = -1", "join 0 3 2 = 2", "join 3 0 0 = 2", "join 0 3 -1 = -1",
            "join 0 3 5 = -1", "join -1 3 2 = -1", "join 0 4 2 = -1", "many 0 = 2 : 0 3", "many 3 = 2 : 0 3",
            "many 4 = -1", "many -1 = -1", "has 3 0 = 1", "has 0 3 = 1", "has 0 -1 = -1", "has 0 4 = -1",
            "core 0 3 = 2", "core 3 0 = 2", "core 3 4 = -1", "reach 0 3 0 = 4", "reach 0 3 3 = 0", "reach 0 3 4 = -1",
            "reach 0 3 -1 = -1", "take 0 3 = 4", "take 0 0 = 4", "take 0 4 = -1", "take 1 0 = -1", "take -1 0 = -1",
            "order 0 0 = 1", "order 1 0 = -1", "order 0 1 = -1", "heap 3 = 0", "heap 4 = -1", "heap -1 = -1",
            "sense 0 = 4", "sense 3 = 4", "steer 0 3 60 = 4", "steer 3 0 0 = 4", "safe 0 3 = 4");
    }

    private static void tallGrid() {
        run("14: one column", "map x;y = 0", "grid 0 2 1 0 16 8 = 8", "next 0 = 2 : 0 1", "next 7 = 2 : 6 7",
            "back 3 = 3 : 2 3 4", "put 0 0 1 = 1", "put 0 7 1 = 2", "homes 0 0 = 2", "homes 0 1 = 0", "put 0 3 1 = 3",
            "homes 0 1 = 0", "turning 0 7 = 0", "map 1/999;y+2 = 1", "turning 0 7 = 1 : 0", "map 0-1;y = 2",
            "turning 0 7 = 1 : 0", "turning 3 3 = 1 : 0");
    }

    /** Nothing of 128 CELLS is left over on a small grid, whatever was asked last on the great one. */
    private static void smallBehindGreat() {
        String[] lasts = {"join 0 0 4", "next 127", "back 127", "take 0 3", "rings 60", "sense 0", "reach 0 1 0", "many 0",
            "steer 0 1 60", "safe 0 1", "core 0 1", "homes 0 0", "homes 3 1"};
        String[] firsts = {"take 0 3 = 2", "next 0 = 2", "back 0 = 2", "rings 1 = 2", "sense 3 = 2", "reach 0 3 0 = 0",
            "reach 0 3 1 = 0", "reach 0 3 2 = 0", "reach 0 3 3 = 2", "join 0 3 4 = 2", "join 0 3 2 = 0", "core 0 3 = 0",
            "safe 0 3 = 0", "steer 0 3 60 = 0", "homes 0 0 = 0", "homes 0 1 = 0", "many 3 = 0", "trap 3 = 1", "heaps = 1",
            "arrows = 4", "plan 0 = -1", "steps 1 = -1", "sight 1 0 = 0", "heap 2 = -1", "has 3 2 = -1", "put 3 0 1 = 1"};
        String[] great = {"use 2 = 1", "grid 0 1024 16 0 1024 8 = 128", "join 0 0 4 = 128", "join 0 1 0 = 128",
            "join 0 2 0 = 128", "sight 0 9 = 0", "sight 1 9 = 0", "see 0 = 1", "steer 0 3 60 = 128", "heaps = 1"};
        for (String last : lasts) {
            for (String first : firsts) {
                RoundMaps maps = new RoundMaps();
                CHECK.run(maps, "14: a great grid", "map 1-x = 0", "map u = 1", "map n;n = 2", "letter 1 0 1024 = 1");
                CHECK.run(maps, "14: a great grid", great);
                CHECK.run(maps, "14: a great grid, last", last);
                CHECK.run(maps, "14: then a small one", "use 0 = 1", "grid 0 1024 2 0 0 1 = 2");
                CHECK.run(maps, "14: behind " + last + ", on a small one", first, "many 1 = 0 :", "many 2 = 0 :",
                    "count 5 = 0", "many 0 = 0 :");
            }
        }
        RoundMaps maps = new RoundMaps();
        RoundMaps other = new RoundMaps();
        CHECK.run(maps, "14: a great grid", "map 1-x = 0", "map u = 1", "map n;n = 2", "letter 1 0 1024 = 1");
        CHECK.run(other, "14: no great grid", "map 1-x = 0", "map u = 1", "map n;n = 2", "letter 1 0 1024 = 1");
        CHECK.run(maps, "14: a great grid", great);
        CHECK.run(maps, "14: then a small one", "use 0 = 1", "grid 0 1024 2 0 0 1 = 2");
        CHECK.run(other, "14: a small one at once", "use 0 = 1", "grid 0 1024 2 0 0 1 = 2");
        CHECK.same("14: nothing is left over", State.all(maps), State.all(other));
    }

    private static void ringsAndWords() {
        run("33: n and CELLS", "map x/2 = 0", "grid -1024 1024 4 0 0 1 = 4", "ring 0 1 = 3", "ring 0 12 = 0",
            "ring 0 13 = -1", "ring 0 0 = -1", "ring 3 1 = 3", "ring 3 12 = 0", "ring 2 12 = 3", "ring 1 12 = 3",
            "ring 4 1 = -1", "ring -1 1 = -1", "stable 0 12 = 1", "stable 3 1 = 1", "stable 0 13 = -1",
            "stable 0 0 = -1", "stable 4 1 = -1", "stable -1 1 = -1", "rings 0 = -1", "rings 1 = 4 : 0 1 2 3",
            "rings 60 = 4 : 0 1 2 3", "rings 61 = -1", "rings -1 = -1", "count 6 = 4");
        run("37: six BOXES", "map 3*x-x*x = 0", "grid 0 3072 3 0 0 1 = 3", "words 1 0 = 0", "words 20 1 = 0",
            "word 0 1 = -1", "covers 0 0 = -1", "box 0 -1 = -1", "box -1 0 = -1", "box 0 3 = -1", "box 1 0 = -1",
            "box 0 0 = 0", "box 2 2 = 1", "box 0 2 = 2", "box 1 1 = 3", "box 0 1 = 4", "box 1 2 = 5", "box 0 0 = -1",
            "count 4 = 6", "covers 0 0 = 1", "covers 0 5 = 0", "covers 5 0 = 1", "covers 5 4 = 1", "covers 4 4 = 1",
            "covers 5 5 = 0", "covers 6 0 = -1", "covers 0 6 = -1", "words 1 0 = 6", "words 0 0 = -1",
            "words 21 0 = -1", "words 1 2 = -1", "word 5 1 = 1", "word 6 1 = -1", "word 1 0 = -1",
            "word 1145324612 8 = 1", "word 1145324613 8 = 1", "word 1413760068 8 = 0", "word 1413760068 7 = 1",
            "word 1145324612 9 = -1", "word 1145324614 8 = -1", "word 1682195524 8 = -1", "word -1807465404 8 = -1",
            "word -1807465404 7 = 1");
        run("39: no WORDS of two", "map x/2+1/8 = 0", "grid 0 1024 4 0 0 1 = 4", "box 0 3 = 0", "box 3 3 = 1",
            "words 1 0 = 2", "words 1 1 = 0", "words 2 0 = 0", "words 20 0 = 0", "words 20 1 = 0", "word 1 1 = 1",
            "word 0 2 = 0", "word 17 2 = 0");
    }

    private static void steering() {
        run("41: n", "map x/2 = 0", "grid 0 1024 16 0 0 1 = 16", "put 0 0 1 = 1", "steer 0 1 -1 = -1", "steps 0 = -1",
            "steer 0 1 0 = 1", "steps 0 = 0", "steps 1 = -1", "plan 0 = -1", "steer 0 1 1 = 1", "put 0 1 1 = 2",
            "steer 0 1 0 = 2", "steer 0 1 1 = 3", "many 1 = 3 : 0 1 2", "plan 2 = 0", "steps 2 = 1", "steps 3 = -1",
            "steer 0 1 2 = 5", "steps 4 = 2", "steer 0 1 3 = 9", "steer 0 1 4 = 16", "steps 15 = 4", "plan 15 = 0",
            "steps 16 = -1", "plan 16 = -1", "steer 0 1 60 = 16", "steer 0 1 61 = -1", "steps 9 = 4", "steps 8 = 3",
            "steer 2 1 60 = 0", "steps 0 = -1", "plan 0 = -1", "safe 2 1 = 0", "safe 0 1 = 2");
        run("7: four PUSHES", "map u = 0", "grid -1000000 1000000 16 0 0 1 = 16", "put 0 0 1 = 1", "steer 0 1 1 = 1",
            "push -1000000 = 2", "push 1000000 = 3", "push 200000 = 4", "push 0 = -1", "push 1000001 = -1",
            "steer 0 1 1 = 16", "plan 15 = 1", "plan 0 = -1", "put 1 15 1 = 16", "join 1 1 3 = 0", "put 1 15 1 = 1",
            "steer 1 2 1 = 16", "plan 0 = 2", "join 1 1 3 = 0", "put 1 9 1 = 1", "steer 1 2 1 = 16", "plan 0 = 3",
            "join 1 1 3 = 0", "put 1 7 1 = 1", "steer 1 2 1 = 1", "put 1 8 1 = 2", "steer 1 2 1 = 16", "plan 0 = 0",
            "count 3 = 4", "shut 5 5 0 0 = 0 : 0 0", "next 0 = 2 : 7 8");
    }

    private static void sights() {
        run("45: SIGHTS", "map x = 0", "grid 0 1024 16 0 0 1 = 16", "sight 0 0 = 0", "sight 0 9 = 0", "sight 15 9 = 0",
            "sight 16 9 = -1", "sight -1 9 = -1", "sight 0 10 = -1", "sight 0 -1 = -1", "sight 0 0 = 9",
            "sight 15 0 = 9", "sight 0 1 = 0");
        RoundMaps maps = new RoundMaps();
        CHECK.run(maps, "46: as many as may be SEEN", "map x+1/4 = 0", "grid 0 4096 16 0 0 1 = 16", "see 10 = -1",
            "see -1 = -1", "blind = 0", "sense 0 = 16");
        // x + 1/4 goes from a CELL to itself and the two behind it; up to 6 it may be ten CELLS further too
        for (int c = 0; c < 16; c++) {
            CHECK.is("45: at first", maps.sight(c, (c + 1) % 10), 0);
        }
        for (int i = 1; i <= 12; i++) {
            CHECK.is("46: see " + i, maps.see(i % 10), i);
            CHECK.is("48: sense " + i, maps.sense(0), i <= 6 ? 2 : 1);
            CHECK.is("48: where it may be " + i, maps.has(0, i - 1), 1);
        }
        CHECK.run(maps, "46: twelve", "see 3 = -1", "count 5 = 12", "sense 0 = 1", "many 0 = 1 : 11", "blind = 12",
            "blind = 0", "sense 0 = 16", "see 0 = 1", "sense 0 = 1", "many 0 = 1 : 9", "see 9 = 2", "sense 0 = 0");
    }

    private static void homes() {
        RoundMaps maps = new RoundMaps();
        CHECK.run(maps, "49: many parts", "map x;y = 0", "grid 0 16 16 0 8 8 = 128");
        for (int c = 0; c < 128; c++) {
            int column = c % 16;
            int line = c / 16;
            maps.put(0, c, column % 2 == 0 && line % 2 == 0);
            maps.put(1, c, (column + line) % 2 == 0 || column % 15 == 0 || line % 7 == 0);
            maps.put(2, c, column % 15 == 0 || line % 7 == 0);
        }
        CHECK.run(maps, "49: many parts and holes", "homes 0 0 = 32", "homes 0 1 = 0", "homes 1 0 = 1",
            "homes 1 1 = 42", "homes 2 0 = 1", "homes 2 1 = 1", "put 2 0 0 = 43", "homes 2 1 = 1", "put 2 64 0 = 42",
            "homes 2 1 = 0", "homes 2 0 = 1", "put 2 79 0 = 41", "homes 2 0 = 2", "homes 3 0 = 0", "homes 3 1 = 0",
            "join 3 3 4 = 128", "homes 3 0 = 1", "homes 3 1 = 0", "homes 0 -1 = -1", "homes 0 2 = -1", "homes 4 0 = -1",
            "homes -1 1 = -1");
        String[] rims = {"1", "2", "4", "8", "7", "11", "13", "14"};
        String[] corners = {"0", "3", "12", "15"};
        run("49: all about a hole", "map x;y = 0", "grid 0 4 4 0 4 4 = 16", "join 0 0 4 = 16", "put 0 5 0", "put 0 6 0",
            "put 0 9 0", "put 0 10 0 = 12", "homes 0 1 = 1", "homes 0 0 = 1");
        for (String rim : rims) {
            run("49: open at " + rim, "map x;y = 0", "grid 0 4 4 0 4 4 = 16", "join 0 0 4 = 16", "put 0 5 0",
                "put 0 6 0", "put 0 9 0", "put 0 10 0 = 12", "put 0 " + rim + " 0", "homes 0 1 = 0",
                "put 0 " + rim + " 1", "homes 0 1 = 1");
        }
        for (String corner : corners) {
            run("49: not open at " + corner, "map x;y = 0", "grid 0 4 4 0 4 4 = 16", "join 0 0 4 = 16", "put 0 5 0",
                "put 0 6 0", "put 0 9 0", "put 0 10 0 = 12", "put 0 " + corner + " 0 = 11", "homes 0 1 = 1",
                "homes 0 0 = 1");
        }
        run("49: on the line", "map x = 0", "grid 0 16 16 0 0 1 = 16", "put 0 0 1", "put 0 2 1", "put 0 4 1",
            "put 0 6 1", "put 0 8 1", "put 0 10 1", "put 0 12 1", "put 0 14 1 = 8", "homes 0 0 = 8", "homes 0 1 = 0",
            "put 0 15 1 = 9", "homes 0 0 = 8", "put 0 13 1 = 10", "homes 0 0 = 7");
        run("49: the least hole", "map x;y = 0", "grid 0 3 3 0 3 3 = 9", "join 0 0 4 = 9", "homes 0 1 = 0",
            "put 0 4 0 = 8", "homes 0 1 = 1", "homes 0 0 = 1", "put 0 0 0 = 7", "homes 0 1 = 1", "put 0 1 0 = 6",
            "homes 0 1 = 0", "grid 0 2 2 0 3 3 = 6", "join 0 0 4 = 6", "put 0 2 0 = 5", "homes 0 1 = 0");
    }

    /** What asks no NET answers all the same; what asks it does again as soon as it is there. */
    private static void otherKind() {
        run("16: a grid of the line under a MAP of the plane", "map x = 0", "grid 0 1024 4 0 0 1 = 4", "box 0 1 = 0",
            "put 0 1 1 = 1", "steer 0 1 60 = 1", "map x;y = 1", "arrows = -1", "cell 1024 -5 = 3", "cell 256 0 = 0",
            "count 2 = 4", "count 4 = 1", "put 0 2 1 = 2", "has 0 2 = 1", "join 0 2 4 = 2", "many 2 = 2 : 0 3",
            "homes 0 0 = 1", "homes 2 0 = 2", "homes 2 1 = 0", "plan 1 = -1", "steps 1 = 0", "sight 3 4 = 0",
            "see 4 = 1", "fine 1 = 0", "sense 2 = -1", "words 1 0 = -1", "shut 0 1 2 3 = 0 : 0 1 2 3",
            "orbit 5 6 3 = 0 : 5 5 6 6", "slope 0 1 = -1", "use 0 = 1", "arrows = 10", "words 1 0 = 1", "sense 2 = 1",
            "many 2 = 1 : 3", "slope 0 1 = 0 : 1024 1024", "count 4 = 1");
        run("16: a grid of the plane under a MAP of the line", "map x;y = 0", "grid 0 4 2 0 4 2 = 4", "map x = 1",
            "arrows = -1", "turning 0 3 = -1", "ring 0 1 = -1", "stable 0 1 = -1", "rings 1 = -1", "box 0 0 = -1",
            "cell 4 4 = 3", "cell 4 5 = -1", "cell 1 4 = 2", "put 3 3 1 = 1", "homes 3 0 = 1",
            "slope 0 9 = 0 : 1024 1024", "grid 0 4 2 0 4 2 = -1", "has 3 3 = 1", "use 0 = 1", "arrows = 16",
            "use 1 = 1", "grid 0 4 2 0 0 1 = 2", "has 3 1 = 0", "has 3 3 = -1", "arrows = 4", "use 0 = 1",
            "arrows = -1");
    }

    private static void counts() {
        RoundMaps maps = State.lead(new RoundMaps(), "full", "");
        CHECK.run(maps, "9: as many as may be", "count 0 = 4", "count 1 = 0", "count 2 = 16", "count 3 = 4",
            "count 4 = 6", "count 5 = 12", "count 6 = 16", "count 7 = 100", "count 8 = 2", "count 9 = 0",
            "count 10 = -1", "count -1 = -1", "use 3 = 1", "count 9 = 3", "use 2 = 1", "count 1 = 1",
            "grid 0 16 16 0 8 8 = 128", "count 2 = 128", "count 4 = 0", "count 5 = 0", "next 5 = 6", "count 6 = 6",
            "end 99 = 1", "count 7 = 99", "end 0 = 1", "count 7 = 0", "sign 0 = 4", "fine 0 = 2", "count 8 = 0");
    }
}
