import java.util.ArrayList;
import java.util.HashMap;
import java.util.List;
import java.util.Map;

/**
 * Refused calls: each on an object that was led somewhere, the first values beside each range and those furthest
 * away; and behind each of them all that can be seen of the object is as if it had not been asked. A call stands
 * behind its promise, and refused ones answer NONE, if nothing else is told.
 */
public final class RefusalsTest {
    private static final Check CHECK = new Check();
    private static final Map<String, List<String>> AS_IT_WAS = new HashMap<>();
    private static final String[] ANYWHERE = {
        "3 end -1 = 0", "3 end MIN = 0", "3 end 101 = 0", "3 end MAX = 0",
        "5 use -1 = 0", "5 use MIN = 0", "5 use 4 = 0", "5 use MAX = 0",
        "6 letter -1 0 0 = 0", "6 letter 3 0 0 = 0", "6 letter MIN 0 0 = 0", "6 letter MAX 0 0 = 0",
        "6 letter 0 1 0 = 0", "6 letter 1 1 0 = 0", "6 letter 2 1 0 = 0", "6 letter 0 1000000 -1000000 = 0",
        "6 letter 0 -1000001 0 = 0", "6 letter 1 -1000001 0 = 0", "6 letter 2 -1000001 0 = 0",
        "6 letter 0 0 1000001 = 0", "6 letter 1 0 1000001 = 0", "6 letter 2 0 1000001 = 0",
        "6 letter 0 -1000001 -1000001 = 0", "6 letter 0 1000001 1000001 = 0", "6 letter 0 MIN MAX = 0",
        "6 letter 1 MIN MIN = 0", "6 letter 2 MAX MAX = 0", "6 letter 2 MIN 0 = 0", "6 letter 2 0 MAX = 0",
        "7 push 1000001", "7 push -1000001", "7 push MIN", "7 push MAX",
        "8 drive -1 1 1 1", "8 drive 4 1 1 1", "8 drive MIN 1 1 1", "8 drive MAX 1 1 1",
        "8 drive 0 21 1 1", "8 drive 1 21 1 1", "8 drive 2 21 1 1", "8 drive 3 21 1 1",
        "8 drive 0 MAX 1 1", "8 drive 3 MAX 1 1", "8 drive -1 -1 1 1", "8 drive 4 -1 1 1", "8 drive 4 21 1 1",
        "8 drive 0 -1 1 1 = -2", "8 drive 1 -1 1 1 = -2", "8 drive 2 -1 1 1 = -2", "8 drive 0 MIN 1 1 = -2",
        "8 drive 1 MIN 1 1 = -2", "8 drive 2 MIN 1 1 = -2",
        "9 count -1", "9 count 10", "9 count MIN", "9 count MAX",
        "10 shut 1 0 0 0", "10 shut 0 0 1 0", "10 shut 1000000 -1000000 0 0", "10 shut 0 0 1000000 -1000000",
        "10 shut -1000001 0 0 0", "10 shut 0 1000001 0 0", "10 shut 0 0 -1000001 0", "10 shut 0 0 0 1000001",
        "10 shut -1000001 -1000001 0 0", "10 shut 1000001 1000001 0 0", "10 shut 0 0 -1000001 -1000001",
        "10 shut 0 0 1000001 1000001", "10 shut MIN 0 0 0", "10 shut 0 MAX 0 0", "10 shut 0 0 MIN 0",
        "10 shut 0 0 0 MAX", "10 shut MIN MIN MIN MIN", "10 shut MAX MAX MAX MAX", "10 shut MIN MAX MIN MAX",
        "11 finer 1 0 0 0 1", "11 finer 0 0 1 0 1", "11 finer -1000001 0 0 0 1", "11 finer 0 1000001 0 0 1",
        "11 finer 0 0 -1000001 0 1", "11 finer 0 0 0 1000001 1", "11 finer MIN 0 0 0 0", "11 finer 0 MAX 0 0 0",
        "11 finer 0 0 MIN 0 0", "11 finer 0 0 0 MAX 0", "11 finer -1000001 -1000001 0 0 1",
        "11 finer 0 0 1000001 1000001 1", "11 finer 0 9 0 9 -1", "11 finer 0 9 0 9 4", "11 finer 0 9 0 9 MIN",
        "11 finer 0 9 0 9 MAX", "11 finer 0 9 0 9 31", "11 finer 0 9 0 9 32",
        "12 slope 1 0", "12 slope -1000001 0", "12 slope 0 1000001", "12 slope MIN 0", "12 slope 0 MAX",
        "12 slope -1000001 -1000001", "12 slope 1000001 1000001", "12 slope MIN MAX",
        "13 orbit 0 0 -1", "13 orbit 0 0 61", "13 orbit 0 0 MIN", "13 orbit 0 0 MAX", "13 orbit 1000001 0 1",
        "13 orbit -1000001 0 1", "13 orbit 0 1000001 1", "13 orbit 0 -1000001 1", "13 orbit MIN 0 0",
        "13 orbit MAX 0 0", "13 orbit 0 MIN 0", "13 orbit 0 MAX 0",
        "14 grid 0 4 0 0 0 1", "14 grid 0 4 -1 0 0 1", "14 grid 0 4 MIN 0 0 1", "14 grid 0 17 17 0 0 1",
        "14 grid 0 4 MAX 0 0 1", "14 grid 0 7 2 0 0 1", "14 grid 0 15 16 0 0 1", "14 grid 0 17 16 0 0 1",
        "14 grid 5 5 1 0 0 1", "14 grid 4 0 2 0 0 1", "14 grid -1000001 -999999 2 0 0 1",
        "14 grid 999999 1000001 2 0 0 1", "14 grid MIN MAX 1 0 0 1", "14 grid MAX MIN 1 0 0 1", "14 grid MIN 0 1 0 0 1",
        "14 grid 0 MAX 1 0 0 1", "14 grid 0 4 2 0 0 2", "14 grid 0 4 2 0 0 0", 
        "14 grid 0 4 2 1 1 1", "14 grid 0 4 2 4 0 2", "14 grid 0 4 2 0 5 2", "14 grid 0 4 2 0 4 0",
        "14 grid 0 4 2 0 4 -1", "14 grid 0 4 2 0 17 17", "14 grid 0 4 2 0 4 MIN", "14 grid 0 4 2 0 4 MAX",
        "14 grid 0 4 2 999999 1000001 2", "14 grid 0 4 2 -1000001 -999999 2", "14 grid 0 4 2 MIN MAX 1",
        "14 grid 0 4 2 MAX MIN 1", "14 grid 0 4 0 0 4 2", "14 grid 0 4 17 0 4 2", "14 grid 0 16 16 0 9 9",
        "14 grid 0 9 9 0 15 15", "14 grid 0 16 16 0 16 16", "14 grid 0 13 13 0 10 10", "14 grid 0 12 12 0 11 11",
        "15 fine -1", "15 fine 3", "15 fine MIN", "15 fine MAX",
        "20 cell MIN 0", "20 cell MAX 0", "20 cell MIN MIN", "20 cell MAX MAX",
        "29 heap -1", "32 change 0", "32 change -1", "32 change 13", "32 change MIN", "32 change MAX",
        "39 words 0 0", "39 words -1 0", "39 words 21 0", "39 words MIN 0", "39 words MAX 0", "39 words 1 -1",
        "39 words 1 2", "39 words 1 MIN", "39 words 1 MAX",
        "40 word 0 0", "40 word 0 -1", "40 word 0 9", "40 word 0 MIN", "40 word 0 MAX", "40 word 6 1", "40 word 15 1",
        "40 word -1 8", "40 word MIN 8",
        "46 see -1", "46 see 10", "46 see MIN", "46 see MAX",
        "50 row -1 = " + State.THROWS, "50 row MIN = " + State.THROWS, "50 row MAX = " + State.THROWS,
        "50 row 128 = " + State.THROWS,
    };
    /** Each with every number that is no SET, in place of S. */
    private static final String[] NO_SET = {"21 put S 0 1", "21 put S 0 0", "22 join S 1 0", "22 join 1 S 0",
        "22 join S S 4", "23 many S", "24 has S 0", "25 core S 1", "25 core 1 S", "26 reach S 1 0", "26 reach 1 S 0",
        "26 reach S 1 2", "26 reach 1 S 2", "26 reach 1 S 3", "27 trap S", "31 take 0 S", "41 steer S 1 1",
        "41 steer 1 S 1", "44 safe S 1", "44 safe 1 S", "48 sense S", "49 homes S 0", "49 homes S 1"};
    /** Each with every number that is no CELL, in place of C. */
    private static final String[] NO_CELL = {"17 next C", "18 back C", "19 leaves C", "21 put 0 C 1", "21 put 0 C 0",
        "24 has 0 C", "29 heap C", "33 ring C 1", "34 stable C 1", "36 turning C 0", "36 turning 0 C",
        "36 turning C C", "37 box C 0", "37 box 0 C", "37 box C C", "42 plan C", "43 steps C", "45 sight C 0"};
    /** Each with every number beside what is allowed, in place of W. */
    private static final String[] OTHERS = {"22 join 0 1 W -1 5", "26 reach 0 1 W -1 4", "33 ring 0 W 0 13",
        "34 stable 0 W 0 13", "35 rings W 0 61", "41 steer 0 1 W -1 61", "45 sight 0 W -1 10", "49 homes 0 W -1 2"};
    private static final String[] ALL_THE_NET = {"16 arrows", "17 next 0", "18 back 0", "19 leaves 0", "25 core 0 1",
        "25 core 3 3", "26 reach 0 1 0", "26 reach 0 1 1", "26 reach 0 1 2", "26 reach 0 1 3", "27 trap 0", "28 heaps",
        "29 heap 0", "30 order 0 0", "31 take 0 1", "32 change 1", "32 change 12", "33 ring 0 1", "34 stable 0 1",
        "35 rings 1", "36 turning 0 0", "37 box 0 0", "38 covers 0 0", "39 words 1 0", "39 words 20 1", "40 word 0 1",
        "41 steer 0 1 0", "41 steer 0 1 60", "44 safe 0 1", "48 sense 0"};
    private static final String[] NO_MAP = {"5 use 0 = 0", "10 shut 0 0 0 0", "11 finer 0 0 0 0 0", "12 slope 0 0",
        "13 orbit 0 0 0", "13 orbit 0 0 1", "14 grid 0 1024 1 0 0 1", "14 grid 0 1024 4 0 0 1", "14 grid 0 4 2 0 4 2",
        "42 plan 0", "43 steps 0", "38 covers 0 0", "50 row 0 = " + State.THROWS, "3 end 1 = 0"};

    public static void main(String[] args) {
        for (String name : State.NAMES) {
            refused(name, ANYWHERE);
            noSuch(name, NO_SET, 'S', -1, 4, Integer.MAX_VALUE, Integer.MIN_VALUE);
            int cells = Integer.parseInt(State.ask(State.lead(new RoundMaps(), name, ""), "count 2"));
            noSuch(name, NO_CELL, 'C', -1, cells, 128, Integer.MAX_VALUE, Integer.MIN_VALUE);
            for (String others : OTHERS) {
                String[] words = others.split(" ");
                String call = others.substring(0, others.indexOf('W') + 1);
                noSuch(name, new String[] {call}, 'W', Integer.parseInt(words[words.length - 2]),
                    Integer.parseInt(words[words.length - 1]), Integer.MAX_VALUE, Integer.MIN_VALUE);
            }
        }
        for (String name : new String[] {"new", "line under plane", "plane under line"}) {
            refused(name, ALL_THE_NET);
        }
        refused("new", NO_MAP);
        onLine();
        onPlane();
        underOther();
        full();
        maps();
        quiet();
        calls();
        CHECK.end();
    }

    private static void refused(String name, String... calls) {
        for (String call : calls) {
            refusedBehind(name, "", call);
        }
    }

    private static void refusedBehind(String name, String first, String call) {
        String asked = call.substring(call.indexOf(' ') + 1);
        String due = "-1";
        if (asked.contains(" = ")) {
            due = asked.substring(asked.indexOf(" = ") + 3);
            asked = asked.substring(0, asked.indexOf(" = "));
        }
        RoundMaps maps = State.lead(new RoundMaps(), name, first);
        CHECK.same(call + ", " + name, State.ask(maps, asked), due);
        List<String> asItWas = AS_IT_WAS.computeIfAbsent(name + first,
            n -> State.all(State.lead(new RoundMaps(), name, first)));
        CHECK.same("behind " + call + ", " + name, State.all(maps), asItWas);
    }

    private static void noSuch(String name, String[] calls, char place, int... numbers) {
        for (String call : calls) {
            for (int number : numbers) {
                refused(name, call.replace("" + place, "" + number));
            }
        }
    }

    private static void onLine() {
        refused("line", "5 use 2 = 0", "3 end 4 = 0", "50 row 3 = " + State.THROWS, "14 grid 0 4 2 0 4 2",
            "14 grid 0 4 2 0 0 2", "14 grid 0 4 2 0 1 1", "14 grid 0 4 2 -1 0 1", "14 grid 0 4 2 -1 1 1",
            "30 order 9 0", "30 order 0 9", "30 order -1 0", "30 order 0 -1", "30 order MIN 0", "30 order 0 MAX",
            "31 take -1 0", "31 take 9 0", "31 take MAX 0", "31 take MIN 0", "36 turning 0 0", "36 turning 0 7",
            "37 box 1 0", "37 box 7 6", "37 box 7 0", "38 covers 3 0", "38 covers 0 3", "38 covers -1 0",
            "38 covers 0 -1", "38 covers MAX 0", "38 covers 0 MIN", "40 word 3 1", "40 word 48 2", "40 word 3 2",
            "40 word -1 1", "40 word 805306368 8");
    }

    private static void onPlane() {
        refused("plane", "5 use 2 = 0", "12 slope 0 0", "12 slope -5 5", "14 grid 0 4 2 0 0 1", "14 grid 0 4 2 5 5 1",
            "14 grid 0 4 2 0 4 3", "33 ring 0 1", "33 ring 0 12", "34 stable 0 1", "34 stable 0 12", "37 box 0 0",
            "37 box 0 11", "38 covers 0 0", "39 words 1 0", "39 words 20 1", "40 word 0 1", "36 turning 1 0",
            "36 turning 4 0", "36 turning 1 4", "36 turning 11 0", "36 turning 5 4", "36 turning 3 4");
    }

    private static void underOther() {
        refused("line under plane", "12 slope 0 0", "14 grid 0 4 2 0 0 1", "5 use 3 = 0");
        refused("plane under line", "14 grid 0 4 2 0 4 2", "5 use 3 = 0");
        refused("line", "12 slope 5 4");
    }

    private static void full() {
        refused("full", "2 sign 0", "2 sign MIN", "2 sign MAX", "2 sign -1", "7 push 0", "7 push 1000000",
            "7 push -1000000", "37 box 0 0", "37 box 0 15", "37 box 15 15", "38 covers 6 0", "38 covers 0 6",
            "40 word 7 1", "46 see 0", "46 see 9", "50 row 16 = " + State.THROWS, "3 end 101 = 0");
        for (int length = 97; length <= 99; length++) {
            refusedBehind("full", "end " + length, "2 sign 0");
            refusedBehind("full", "end " + length, "3 end " + (length + 1) + " = 0");
        }
        refusedBehind("line", "blind; see 4; see 4; see 4; see 4; see 4; see 4; see 4; see 4; see 4; see 4; see 4; see 4",
            "46 see 9");
        refusedBehind("line", "push -100", "7 push 500");
        refusedBehind("line", "box 1 1; box 2 6; box 3 3", "37 box 0 7");
        refusedBehind("line", "many 3; join 3 3 3; many 3", "50 row 0 = " + State.THROWS);
        refusedBehind("line", "grid -1024 1024 8 0 0 1", "42 plan 3");
        refusedBehind("line", "grid -1024 1024 8 0 0 1", "43 steps 3");
        refusedBehind("line", "grid -1024 1024 8 0 0 1", "38 covers 0 0");
        refusedBehind("line", "grid -1024 1024 8 0 0 1", "40 word 0 1");
    }

    /** A text that is no MAP is taken off THE TAPE, and nothing else has changed. */
    private static void maps() {
        String[] texts = {"", "x+", "z", "x;y;", "(x", "x/1000", "x<1", "x+".repeat(31)};
        int[] due = {-1, -3, -1, -4, -3, -6, -4, -61};
        for (String name : State.NAMES) {
            for (int i = 0; i < texts.length; i++) {
                RoundMaps maps = State.lead(new RoundMaps(), name, "");
                CHECK.same("4 " + texts[i] + ", " + name, State.map(maps, texts[i]),
                    name.equals("full") ? "-100" : "" + due[i]);
                CHECK.same("behind 4 " + texts[i] + ", " + name, State.all(maps),
                    State.all(State.lead(new RoundMaps(), name, "end 0")));
            }
        }
    }

    /** Calls that change nothing, or the ROW alone. */
    private static void quiet() {
        String[] calls = {"9 count 0 = 2", "16 arrows = 16", "19 leaves 0 = 0", "20 cell 0 0 = 3", "24 has 0 3 = 1",
            "27 trap 0 = 1", "28 heaps = 3", "29 heap 3 = 1", "30 order 0 0 = 1", "33 ring 3 1 = 5", "34 stable 3 12 = 1",
            "33 ring 0 1 = 0", "38 covers 0 0 = 0", "39 words 1 0 = 3", "40 word 0 1 = 1", "42 plan 0 = 1", "43 steps 3 = 0",
            "49 homes 1 0 = 2", "49 homes 1 1 = 0", "50 row 0 = 3", "3 end 3 = 1", "5 use 0 = 1", "15 fine 1 = 1",
            "21 put 0 3 1 = 2", "21 put 0 0 0 = 2", "22 join 1 1 0 = 2", "22 join 1 1 1 = 2", "22 join 1 1 2 = 2",
            "45 sight 0 9 = 9", "6 letter 0 -18 9 = 1"};
        refused("line", calls);
        String[] told = {"shut 0 1 0 0", "finer 0 1 0 0 1", "slope 0 1", "orbit 0 0 60", "next 0", "back 0", "many 0",
            "change 12", "rings 60"};
        for (String name : new String[] {"line", "plane"}) {
            List<String> due = withoutRow(State.all(State.lead(new RoundMaps(), name, "")));
            for (String call : told) {
                RoundMaps maps = State.lead(new RoundMaps(), name, "");
                State.ask(maps, call);
                CHECK.same("the ROW alone is changed by " + call + ", " + name, withoutRow(State.all(maps)), due);
            }
        }
    }

    private static List<String> withoutRow(List<String> all) {
        List<String> rest = new ArrayList<>(all);
        rest.removeIf(answer -> answer.startsWith("count 6"));
        while (rest.get(9).startsWith("row")) {
            rest.remove(9);
        }
        return rest;
    }

    /** An object is used for at most 512 calls. */
    private static void calls() {
        for (String name : State.NAMES) {
            State.asked = 0;
            State.all(State.lead(new RoundMaps(), name, ""));
            CHECK.is("calls of " + name + " are few: " + State.asked, State.asked <= 510, true);
        }
    }
}
