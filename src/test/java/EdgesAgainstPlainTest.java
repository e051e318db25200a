import java.lang.reflect.Method;
import java.lang.reflect.Modifier;
import java.util.ArrayList;
import java.util.Collections;
import java.util.List;
import java.util.Map;
import java.util.TreeMap;

/**
 * Every call with each of its arguments put to every edge in turn, on objects that were led somewhere: its answer,
 * and all that can be seen behind it, are as the plain words have them.
 */
public final class EdgesAgainstPlainTest {
    private static final int[] EDGES = {-2, -1, 0, 1, 2, 3, 4, 5, 6, 7, 8, 9, 10, 11, 12, 13, 15, 16, 17, 19, 20, 21, 59, 60,
        61, 127, 128, 999999, 1000000, 1000001, -999999, -1000000, -1000001, Integer.MAX_VALUE, Integer.MIN_VALUE};
    /** Arguments with which a call is answered on most objects; more than one row, if one argument shuts others out. */
    private static final Map<String, String> USUAL = new TreeMap<>();

    static {
        String[] usual = {"sign 2016358912", "end 2", "map", "use 1", "letter 0 -5 7|letter 1 3 3|letter 2 -1000000 1000000",
            "push 77", "drive 0 3 100 30|drive 1 3 30000 30000|drive 2 3 2000000000 90000000|drive 3 3 5 5", "count 2",
            "shut 5 900 -3 40", "finer 5 900 -3 40 1|finer -9 8 -3 40 3", "slope -3 5", "orbit 5 -7 3",
            "grid -16 16 4 0 0 1|grid -16 16 4 -8 8 2|grid 0 720720 16 0 720720 8|grid 0 720720 8 0 720720 16", "fine 1",
            "arrows", "next 3", "back 3", "leaves 3", "cell 5 7", "put 0 5 1|put 1 0 0",
            "join 0 1 0|join 1 2 1|join 0 1 2|join 2 1 3|join 1 1 4", "many 2", "has 0 3", "core 2 1",
            "reach 0 1 0|reach 1 2 1|reach 0 0 2|reach 1 3 3", "trap 0", "heaps", "heap 3", "order 0 1|order 1 0",
            "take 1 0", "change 3", "ring 3 1|ring 4 2", "stable 3 1|stable 4 2", "rings 2", "turning 0 5|turning 5 6",
            "box 1 3", "covers 0 1|covers 2 0", "words 3 0|words 2 1", "word 0 2|word 33 2|word 18 3",
            "steer 0 1 3|steer 1 1 60", "plan 2", "steps 2",
            "safe 0 1|safe 2 2", "sight 3 7", "see 4", "blind", "sense 2", "homes 2 0|homes 1 1", "row 1"};
        for (String calls : usual) {
            USUAL.put(calls.split("[ |]")[0], calls);
        }
    }

    public static void main(String[] args) {
        List<String[]> asked = new ArrayList<>();
        for (Method method : RoundMaps.class.getDeclaredMethods()) {
            if (Modifier.isPublic(method.getModifiers())) {
                for (String usual : USUAL.get(method.getName()).split("[|]")) {
                    for (String name : State.NAMES) {
                        addEdges(asked, name, usual);
                    }
                }
            }
        }
        List<String> wrong = Collections.synchronizedList(new ArrayList<>());
        asked.parallelStream().forEach(pair -> compare(pair[0], pair[1], wrong));
        for (int i = 0; i < wrong.size() && i < 20; i++) {
            System.out.println(wrong.get(i));
        }
        System.out.println(asked.size() + " calls at edges, " + wrong.size() + " not as due");
        if (!wrong.isEmpty()) {
            System.exit(1);
        }
    }

    private static void addEdges(List<String[]> asked, String name, String usual) {
        asked.add(new String[] {name, usual});
        String[] words = usual.split(" ");
        for (int i = 1; i < words.length; i++) {
            String kept = words[i];
            for (int edge : EDGES) {
                words[i] = "" + edge;
                asked.add(new String[] {name, String.join(" ", words)});
            }
            words[i] = kept;
        }
    }

    private static void compare(String name, String call, List<String> wrong) {
        RoundMaps maps = State.lead(new RoundMaps(), name, "");
        Plain plain = State.lead(new Plain(), name, "");
        String got = State.ask(maps, call);
        String due = State.ask(plain, call);
        if (!got.equals(due)) {
            wrong.add(call + ", " + name + ", answered " + got + ", due is " + due);
            return;
        }
        if (due.equals("-1") || due.equals(State.THROWS)) {
            // RefusalsTest looks behind these
            return;
        }
        List<String> all = State.all(maps);
        List<String> allDue = State.all(plain);
        for (int i = 0; i < all.size() && i < allDue.size(); i++) {
            if (!all.get(i).equals(allDue.get(i))) {
                wrong.add("behind " + call + ", " + name + ": " + all.get(i) + ", due is " + allDue.get(i));
                return;
            }
        }
        if (all.size() != allDue.size()) {
            wrong.add("behind " + call + ", " + name + ": more or less is seen");
        }
    }
}
