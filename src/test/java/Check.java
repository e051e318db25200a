import java.util.ArrayList;
import java.util.List;
import java.util.NoSuchElementException;

/** What the tests share: it prints each answer that is not due, and ends the test with exit code 1 then. */
final class Check {
    private int asked = 0;
    private int wrong = 0;

    void is(String what, long got, long want) {
        asked++;
        if (got != want) {
            wrong++;
            System.out.println(what + " answered " + got + ", due is " + want);
        }
    }

    void is(String what, boolean got, boolean want) {
        is(what, got ? 1 : 0, want ? 1 : 0);
    }

    void same(String what, String got, String want) {
        asked++;
        if (!got.equals(want)) {
            wrong++;
            System.out.println(what + " answered " + got + ", due is " + want);
        }
    }

    /** Tells the first place where two objects differ. */
    void same(String what, List<String> got, List<String> want) {
        asked++;
        if (!got.equals(want)) {
            wrong++;
            int i = 0;
            while (i < got.size() && i < want.size() && got.get(i).equals(want.get(i))) {
                i++;
            }
            System.out.println(what + " told " + (i < got.size() ? got.get(i) : "its end") + ", due is "
                + (i < want.size() ? want.get(i) : "its end"));
        }
    }

    void row(String what, RoundMaps maps, int... want) {
        asked++;
        List<Integer> due = new ArrayList<>();
        for (int number : want) {
            due.add(number);
        }
        List<Integer> got = rowOf(maps);
        if (!got.equals(due)) {
            wrong++;
            System.out.println(what + " told " + got + ", due is " + due);
        }
    }

    void set(String what, RoundMaps maps, int set, int... want) {
        is(what + ": many", maps.many(set), want.length);
        row(what, maps, want);
    }

    /**
     * A run of calls on one object: "put 0 1 1 = 1" is due to answer 1, "many 0 = 1 : 1" to answer 1 and then
     * to have the ROW 1; "map x+1" writes the text on an empty TAPE ahead.
     */
    void run(RoundMaps maps, String promise, String... calls) {
        for (String call : calls) {
            int answer = call.indexOf(" = ");
            int row = call.indexOf(" :");
            String asked = answer >= 0 ? call.substring(0, answer) : call;
            String got = asked.startsWith("map ") ? State.map(maps, asked.substring(4)) : State.ask(maps, asked);
            if (answer >= 0) {
                same(promise + ": " + asked, got, call.substring(answer + 3, row >= 0 ? row : call.length()));
            }
            if (row >= 0) {
                StringBuilder told = new StringBuilder(" :");
                for (int number : rowOf(maps)) {
                    told.append(' ').append(number);
                }
                same(promise + ": the ROW behind " + asked, told.toString(), call.substring(row));
            }
        }
    }

    void throwsNone(String what, RoundMaps maps, int i) {
        boolean thrown = false;
        try {
            maps.row(i);
        } catch (NoSuchElementException e) {
            thrown = true;
        }
        is(what + " throws NoSuchElementException", thrown, true);
    }

    void end() {
        System.out.println(asked + " answers, " + wrong + " not as due");
        if (wrong > 0) {
            System.exit(1);
        }
    }

    static List<Integer> rowOf(RoundMaps maps) {
        List<Integer> numbers = new ArrayList<>();
        try {
            for (int i = 0; i < 1000; i++) {
                numbers.add(maps.row(i));
            }
        } catch (NoSuchElementException e) {
            return numbers;
        }
        return numbers;
    }

    /** Writes a text on an empty TAPE. */
    static void write(RoundMaps maps, String text) {
        for (int i = 0; i < text.length(); i += 4) {
            int v = 0;
            for (int j = i; j < i + 4; j++) {
                v = (v << 8) + (j < text.length() ? text.charAt(j) : 0);
            }
            maps.sign(v);
        }
        maps.end(text.length());
    }

    static int map(RoundMaps maps, String text) {
        write(maps, text);
        return maps.map();
    }

    /** A new object with one MAP. */
    static RoundMaps with(String text) {
        RoundMaps maps = new RoundMaps();
        if (map(maps, text) != 0) {
            throw new IllegalStateException(text);
        }
        return maps;
    }

    static RoundMaps onLine(String text, int from, int to, int w) {
        RoundMaps maps = with(text);
        if (maps.grid(from, to, w, 0, 0, 1) != w) {
            throw new IllegalStateException(text);
        }
        return maps;
    }

    static void put(RoundMaps maps, int set, int... cells) {
        for (int cell : cells) {
            maps.put(set, cell, true);
        }
    }
}
