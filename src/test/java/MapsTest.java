/** Promises 1 to 9. */
public final class MapsTest {
    private static final Check CHECK = new Check();

    public static void main(String[] args) {
        newObject();
        tape();
        texts();
        longTexts();
        fullMaps();
        use();
        letters();
        pushes();
        drive();
        count();
        CHECK.end();
    }

    private static void newObject() {
        RoundMaps maps = new RoundMaps();
        int[] due = {0, 0, 1, 1, 0, 0, 0, 0, 0, -1};
        for (int what = 0; what < due.length; what++) {
            CHECK.is("1: count " + what, maps.count(what), due[what]);
        }
        CHECK.is("1: cell at 0", maps.cell(0, 99), 0);
        CHECK.is("1: cell at 1024", maps.cell(1024, -99), 0);
        CHECK.is("1: cell at 1025", maps.cell(1025, 0), -1);
        CHECK.is("1: cell at -1", maps.cell(-1, 0), -1);
        for (int set = 0; set < 4; set++) {
            CHECK.is("1: set " + set, maps.many(set), 0);
        }
        CHECK.throwsNone("1: row", maps, 0);
        Check.map(maps, "x");
        CHECK.is("1: arrows on the first grid", maps.arrows(), 1);
        CHECK.is("1: leaves on the first grid", maps.leaves(0), 0);
    }

    private static void tape() {
        RoundMaps maps = new RoundMaps();
        for (int i = 1; i <= 25; i++) {
            CHECK.is("2: sign " + i, maps.sign(0x782b782b), 4 * i);
        }
        CHECK.is("2: sign on a full tape", maps.sign(0), -1);
        CHECK.is("2: a full tape stays", maps.count(7), 100);
        CHECK.is("3: end below 0", maps.end(-1), false);
        CHECK.is("3: end above", maps.end(101), false);
        CHECK.is("3: nothing changed", maps.count(7), 100);
        CHECK.is("3: end at its end", maps.end(100), true);
        CHECK.is("3: end", maps.end(97), true);
        CHECK.is("3: shorter", maps.count(7), 97);
        CHECK.is("2: 4 more would be 101", maps.sign(0), -1);
        CHECK.is("3: end again", maps.end(96), true);
        CHECK.is("2: 4 more are 100", maps.sign(0), 100);
        maps.end(2);
        CHECK.is("3: what stood behind is gone", maps.map(), -3);
        Check.write(maps, "x/20");
        maps.end(2);
        CHECK.is("3: digits behind are gone", maps.map(), -3);
        maps.sign(0x332d782f);
        maps.sign(0x3400ff80);
        maps.end(5);
        CHECK.is("2: the highest byte first", maps.map(), 0);
        maps.shut(1024, 1024, 0, 0);
        CHECK.row("2: 3-x/4", maps, 2816, 2816);
        Check.write(maps, "8/24");
        maps.end(3);
        maps.map();
        maps.shut(0, 0, 0, 0);
        CHECK.row("3: 8/2", maps, 4096, 4096);
        Check.write(maps, "1234");
        maps.end(2);
        maps.map();
        maps.shut(0, 0, 0, 0);
        CHECK.row("3: 12", maps, 12288, 12288);
    }

    private static void text(String text, int place) {
        RoundMaps maps = new RoundMaps();
        CHECK.is("4: " + text, Check.map(maps, text), place < 0 ? 0 : -1 - place);
        CHECK.is("4: tape behind " + text, maps.count(7), 0);
        CHECK.is("4: THE MAP behind " + text, maps.count(9), place < 0 ? 0 : -1);
    }

    private static void texts() {
        String[] right = {"x", "0", "0000", "9999", "--x", "-A-Ax", "AAx", "x*-x", "x+-x", "x--x", "x/999", "x/1*2/3",
            "x;y", "(x)", "((x))", "x<1?x:x", "x<x?x<x?x:x:x", "(x<1?x:2)<3?x:y", "x<(x<1?2:3)?x:1", "x<1?2:3+x",
            "x<1?x:x<2?y:a", "x+1<2*x-1?x+1:x-1", "(x-1<x?x+1:x)+1<x?1:2", "(x<1?n:u)*d;-(y)", "y", "x+a-n*u/7-d"};
        for (String text : right) {
            text(text, -1);
        }
        text("", 0);
        text(")", 0);
        text("x)", 1);
        text("x+", 2);
        text("(x", 2);
        text("()", 1);
        text("(", 1);
        text("x x", 1);
        text(" x", 0);
        text("2x", 1);
        text("xy", 1);
        text("x(", 1);
        text("x-+x", 2);
        text("x**x", 2);
        text("x/", 2);
        text("x/0", 2);
        text("x/01", 2);
        text("x/a", 2);
        text("x//2", 2);
        text("x/-2", 2);
        text("x/(2)", 2);
        text("x/1000", 5);
        text("x/99x", 4);
        text("00001", 4);
        text("x?x:x", 1);
        text("x:x", 1);
        text("x<", 2);
        text("x<1", 3);
        text("x<1:x", 3);
        text("x<1<2?x:x", 3);
        text("x<1?", 4);
        text("x<1?x", 5);
        text("x<1?x?x", 5);
        text("x<1?x:", 6);
        text("x<1?x:x:x", 7);
        text("x<1?x;y", 5);
        text("(x<1)", 4);
        text("(x<1?x)", 6);
        text("(x<1?x:x", 8);
        text("(x:x)", 2);
        text("(x;y)", 2);
        text("x<y;x", 3);
        text(";x", 0);
        text("x;", 2);
        text("x;;y", 2);
        text("x;y;x", 3);
        text("B", 0);
        text("X", 0);
        text("a" + (char) 0, 1);
        text("" + (char) 233, 0);
        text("x" + (char) 184, 1);
    }

    private static void longTexts() {
        String most = "-x" + "+x".repeat(29);
        text(most, -1);
        text("+" + most, 0);
        text(most + "+x", 60);
        text(most + "z", 60);
        text(most + ";", 60);
        text(most.substring(0, 59), 59);
        text("x+".repeat(30), 60);
        text("x+".repeat(31), 60);
        text("x+x+x+)" + "x+".repeat(40), 6);
        text("x+".repeat(29) + "x)x", 59);
        text("(".repeat(60), 60);
        text("(".repeat(61), 60);
        text("(".repeat(99) + ")", 60);
        text("(".repeat(29) + "ax" + ")".repeat(29), 30);
        text("(".repeat(29) + "a" + ")".repeat(29), -1);
        text("-".repeat(59) + "x", -1);
        text("-".repeat(60), 60);
        text("x<1?".repeat(15), 60);
        text("x<1?".repeat(10) + "x" + ":x".repeat(9), 59);
        text("x<1?".repeat(9) + "x" + ":x".repeat(9), -1);
        text("x".repeat(100), 1);
    }

    private static void fullMaps() {
        RoundMaps maps = new RoundMaps();
        for (int i = 0; i < 4; i++) {
            CHECK.is("4: wrong ahead of " + i, Check.map(maps, "z"), -1);
            CHECK.is("4: map " + i, Check.map(maps, "x+" + i), i);
            CHECK.is("4: THE MAP " + i, maps.count(9), i);
        }
        CHECK.is("4: a fifth", Check.map(maps, "x"), -100);
        CHECK.is("4: the tape is empty", maps.count(7), 0);
        CHECK.is("4: a wrong fifth", Check.map(maps, "z"), -100);
        CHECK.is("4: none at all", maps.map(), -100);
        CHECK.is("4: how many", maps.count(0), 4);
        CHECK.is("4: THE MAP stays", maps.count(9), 3);
    }

    private static void use() {
        RoundMaps maps = Check.with("x+1");
        Check.map(maps, "x;y");
        CHECK.is("5: use 0", maps.use(0), true);
        CHECK.is("5: THE MAP", maps.count(9), 0);
        CHECK.is("5: of the line", maps.count(1), 0);
        CHECK.is("5: use 2", maps.use(2), false);
        CHECK.is("5: use -1", maps.use(-1), false);
        CHECK.is("5: use the least number", maps.use(Integer.MIN_VALUE), false);
        CHECK.is("5: nothing changed", maps.count(9), 0);
        maps.shut(0, 0, 0, 0);
        CHECK.row("5: its image", maps, 1024, 1024);
        CHECK.is("5: use 1", maps.use(1), true);
        CHECK.is("5: of the plane", maps.count(1), 1);
        CHECK.is("5: on a new object", new RoundMaps().use(0), false);
    }

    private static void letters() {
        String[] names = {"a", "n", "d"};
        for (int what = 0; what < 3; what++) {
            RoundMaps maps = Check.with(names[what]);
            maps.shut(5, 5, 5, 5);
            CHECK.row("6: " + names[what] + " at first", maps, 0, 0);
            CHECK.is("6: letter", maps.letter(what, -1000000, 1000000), true);
            CHECK.is("6: lo above hi", maps.letter(what, 4, 3), false);
            CHECK.is("6: too low", maps.letter(what, -1000001, 3), false);
            CHECK.is("6: too high", maps.letter(what, 0, 1000001), false);
            maps.shut(5, 5, 5, 5);
            CHECK.row("6: " + names[what], maps, -1000000, 1000000);
            CHECK.is("6: one number", maps.letter(what, 7, 7), true);
            maps.shut(5, 5, 5, 5);
            CHECK.row("6: " + names[what] + " again", maps, 7, 7);
        }
        RoundMaps maps = new RoundMaps();
        CHECK.is("6: what -1", maps.letter(-1, 0, 0), false);
        CHECK.is("6: what 3", maps.letter(3, 0, 0), false);
    }

    private static void pushes() {
        RoundMaps maps = Check.with("u");
        CHECK.is("7: too high", maps.push(1000001), -1);
        CHECK.is("7: too low", maps.push(-1000001), -1);
        CHECK.is("7: the first more", maps.push(1000000), 2);
        CHECK.is("7: the second more", maps.push(-1000000), 3);
        CHECK.is("7: the third more", maps.push(0), 4);
        CHECK.is("7: a fifth", maps.push(0), -1);
        CHECK.is("7: how many", maps.count(3), 4);
        maps.shut(5, 5, 5, 5);
        CHECK.row("7: u is 0 all the same", maps, 0, 0);
    }

    private static void entries(String what, RoundMaps maps, int... due) {
        for (int t = 0; t < due.length; t++) {
            maps.orbit(0, 0, t + 1);
            CHECK.row(what + ": entry " + t, maps, due[t], due[t]);
        }
    }

    private static void drive() {
        RoundMaps maps = Check.with("d");
        maps.letter(2, 77, 77);
        entries("8: none at first", maps, 77, 77);
        CHECK.is("8: bytes", maps.drive(0, 3, 127, 1), 3);
        entries("8: bytes", maps, 127, -128, -127, 77);
        CHECK.is("8: shorts", maps.drive(1, 3, 32767, 65537), 3);
        entries("8: shorts", maps, 32767, -32768, -32767, 77);
        CHECK.is("8: ints", maps.drive(2, 3, -2147483647, -4), 3);
        entries("8: ints", maps, -2147483647, 2147483645, 2147483641, 77);
        CHECK.is("8: below 0", maps.drive(0, -1, 5, 5), -2);
        CHECK.is("8: shorts below 0", maps.drive(1, -1, 5, 5), -2);
        CHECK.is("8: ints below 0", maps.drive(2, Integer.MIN_VALUE, 5, 5), -2);
        CHECK.is("8: too many", maps.drive(2, 21, 5, 5), -1);
        CHECK.is("8: too many of a missing one", maps.drive(3, 21, 5, 5), -1);
        CHECK.is("8: another kind", maps.drive(4, -1, 5, 5), -1);
        CHECK.is("8: kind -1", maps.drive(-1, 1, 5, 5), -1);
        entries("8: the row stays", maps, -2147483647, 2147483645, 2147483641, 77);
        CHECK.is("8: no entries", maps.drive(2, 0, 5, 5), 0);
        entries("8: no entries", maps, 77);
        CHECK.is("8: 20 entries", maps.drive(2, 20, 1, 1), 20);
        maps.orbit(0, 0, 20);
        CHECK.row("8: the last entry", maps, 20, 20);
        maps.shut(0, 0, 0, 0);
        CHECK.row("8: d is told all the same", maps, 77, 77);
        CHECK.is("8: missing", maps.drive(3, -5, 5, 5), -3);
        entries("8: missing", maps, 77);
        CHECK.is("8: missing, of 20", maps.drive(3, 20, 5, 5), -3);
    }

    private static void count() {
        RoundMaps maps = Check.onLine("x", 0, 1024, 4);
        Check.map(maps, "x;y");
        maps.use(0);
        maps.push(3);
        maps.box(0, 1);
        maps.box(1, 1);
        maps.box(2, 3);
        maps.see(1);
        maps.see(1);
        maps.next(1);
        maps.sign(0);
        maps.fine(2);
        int[] due = {2, 0, 4, 2, 3, 2, 3, 4, 2, 0};
        for (int what = 0; what < due.length; what++) {
            CHECK.is("9: count " + what, maps.count(what), due[what]);
        }
        CHECK.is("9: count 10", maps.count(10), -1);
        CHECK.is("9: count -1", maps.count(-1), -1);
        maps.use(1);
        CHECK.is("9: of the plane", maps.count(1), 1);
    }
}
