import java.lang.reflect.InvocationTargetException;
import java.lang.reflect.Method;
import java.lang.reflect.Modifier;
import java.util.ArrayList;
import java.util.HashMap;
import java.util.List;
import java.util.Map;
import java.util.NoSuchElementException;
import java.util.concurrent.ConcurrentHashMap;

/**
 * Objects that were led somewhere, and all that can be seen of one. Calls are told as words ("letter 0 -1 1"),
 * so that the same ones can be asked of the class and of Plain.
 */
final class State {
    static final String THROWS = "NoSuchElementException";
    /** A new object; one of the line, one of the plane; both again under a MAP of the other kind; a full one. */
    static final String[] NAMES = {"new", "line", "plane", "line under plane", "plane under line", "full"};

    /** Tests ask from several threads at once. */
    private static final Map<Class<?>, Map<String, Method>> METHODS = new ConcurrentHashMap<>();

    /** How many calls were asked. */
    static int asked = 0;

    private State() {
    }

    /** What a call answers: a number, 1 or 0 for true or false, or THROWS. */
    static String ask(Object object, String call) {
        asked++;
        String[] words = call.split(" ");
        Method method = method(object.getClass(), words[0]);
        Class<?>[] types = method.getParameterTypes();
        if (types.length != words.length - 1) {
            throw new IllegalArgumentException(call);
        }
        Object[] arguments = new Object[types.length];
        for (int i = 0; i < types.length; i++) {
            int number = number(words[i + 1]);
            arguments[i] = types[i] == boolean.class ? (Object) (number != 0) : (Object) number;
        }
        try {
            Object answer = method.invoke(object, arguments);
            return answer instanceof Boolean ? (Boolean) answer ? "1" : "0" : answer.toString();
        } catch (InvocationTargetException e) {
            if (e.getCause() instanceof NoSuchElementException) {
                return THROWS;
            }
            throw new IllegalStateException(call, e.getCause());
        } catch (IllegalAccessException e) {
            throw new IllegalStateException(call, e);
        }
    }

    private static Method method(Class<?> of, String name) {
        Method method = METHODS.computeIfAbsent(of, State::methods).get(name);
        if (method == null) {
            throw new IllegalArgumentException(name);
        }
        return method;
    }

    private static Map<String, Method> methods(Class<?> of) {
        Map<String, Method> named = new HashMap<>();
        for (Method method : of.getDeclaredMethods()) {
            if (Modifier.isPublic(method.getModifiers())) {
                method.setAccessible(true);
                named.put(method.getName(), method);
            }
        }
        return named;
    }

    private static int number(String word) {
        return word.equals("MAX") ? Integer.MAX_VALUE : word.equals("MIN") ? Integer.MIN_VALUE : Integer.parseInt(word);
    }

    /** Asks several calls, with ; between. */
    static void lead(Object object, String calls) {
        for (String call : calls.split(";")) {
            ask(object, call.trim());
        }
    }

    static void write(Object object, String text) {
        ask(object, "end 0");
        for (int i = 0; i < text.length(); i += 4) {
            int v = 0;
            for (int j = i; j < i + 4; j++) {
                v = (v << 8) + (j < text.length() ? text.charAt(j) : 0);
            }
            ask(object, "sign " + v);
        }
        ask(object, "end " + text.length());
    }

    static String map(Object object, String text) {
        write(object, text);
        return ask(object, "map");
    }

    static <T> T lead(T object, String name, String more) {
        if (name.startsWith("line")) {
            line(object);
        } else if (name.startsWith("plane")) {
            plane(object);
        } else if (name.equals("full")) {
            full(object);
        }
        if (name.endsWith(" under plane")) {
            map(object, "x;y+a");
        } else if (name.endsWith(" under line")) {
            map(object, "x+a");
        }
        if (!name.equals("new") && !name.equals("full")) {
            write(object, "x+7");
        }
        if (!more.isEmpty()) {
            lead(object, more);
        }
        return object;
    }

    private static void line(Object object) {
        map(object, "x/2+u+(a+2*n+3*d)/9");
        map(object, "u");
        lead(object, "use 0; letter 0 -18 9; letter 1 0 18; letter 2 3 6; grid -1024 1024 8 0 0 1; fine 1; push 300;"
            + "push -700; drive 2 5 100 37; box 0 3; box 2 5; box 4 4");
        common(object, 8);
    }

    private static void plane(Object object) {
        map(object, "x/2+u+a;y/2+u+n+d");
        map(object, "u;u");
        lead(object, "use 0; letter 0 -18 9; letter 1 0 18; letter 2 3 6; grid -1024 1024 4 -768 768 3; fine 1; push 300;"
            + "push -700; drive 2 5 100 37");
        common(object, 12);
    }

    private static void common(Object object, int cells) {
        lead(object, "put 0 3 1; put 0 4 1; put 1 0 1; put 1 7 1; put 2 1 1; put 2 2 1; put 2 5 1");
        for (int c = 0; c < cells; c++) {
            ask(object, "sight " + c + " " + (c % 7 == 0 ? 9 : 4));
        }
        lead(object, "see 9; see 4; see 4; steer 0 3 5; next 3");
    }

    private static void full(Object object) {
        map(object, "x/2+u+a");
        map(object, "u");
        map(object, "x;y");
        map(object, "x*x-d");
        lead(object, "use 0; letter 0 -1000000 1000000; letter 1 1000000 1000000; letter 2 -1000000 -1000000;"
            + "grid -1000000 1000000 16 0 0 1; fine 2; push 1000000; push -1000000; push 5; drive 0 20 -128 7;"
            + "box 0 15; box 0 0; box 15 15; box 7 8; box 0 7; box 8 15; steer 0 0 60");
        for (int set = 0; set < 4; set++) {
            ask(object, "join " + set + " " + set + " 4");
        }
        for (int c = 0; c < 16; c++) {
            ask(object, "sight " + c + " 9");
        }
        for (int i = 0; i < 12; i++) {
            ask(object, "see 9");
        }
        for (int i = 0; i < 25; i++) {
            ask(object, "sign " + 0x782b782b);
        }
        ask(object, "many 0");
    }

    /** All that can be seen of an object, in fewer than 400 calls, which use it up. */
    static List<String> all(Object object) {
        List<String> seen = new ArrayList<>();
        for (int what = 0; what < 10; what++) {
            see(object, seen, "count " + what);
        }
        row(object, seen);
        int cells = Integer.parseInt(ask(object, "count 2"));
        for (int set = 0; set < 4; set++) {
            see(object, seen, "many " + set);
            row(object, seen);
        }
        for (int c = 0; c < cells; c++) {
            see(object, seen, "plan " + c);
            see(object, seen, "steps " + c);
        }
        ground(object, seen);
        see(object, seen, "shut 5 9 -3 4");
        row(object, seen);
        see(object, seen, "use 0");
        images(object, seen);
        net(object, seen, cells);
        words(object, seen);
        see(object, seen, "sense 0");
        see(object, seen, "many 0");
        row(object, seen);
        pushes(object, seen, cells);
        for (int c = 0; c < cells; c++) {
            see(object, seen, "sight " + c + " 0");
        }
        see(object, seen, "map");
        see(object, seen, "shut 5 9 -3 4");
        row(object, seen);
        return seen;
    }

    private static void see(Object object, List<String> seen, String call) {
        seen.add(call + " = " + ask(object, call));
    }

    private static void row(Object object, List<String> seen) {
        int total = Integer.parseInt(ask(object, "count 6"));
        for (int i = 0; i < total; i++) {
            see(object, seen, "row " + i);
        }
    }

    private static void ground(Object object, List<String> seen) {
        int[] across = {-1000000, -1025, -1024, -768, -1, 0, 1024, 1025, 1000000};
        int[] up = {-769, -768, 0, 768, 769};
        for (int i = 0; i < across.length; i++) {
            see(object, seen, "cell " + across[i] + " " + up[i % up.length]);
        }
        see(object, seen, "cell 0 769");
        see(object, seen, "cell 0 -769");
    }

    private static void images(Object object, List<String> seen) {
        see(object, seen, "shut 5 9 -3 4");
        row(object, seen);
        for (int n = 0; n < 7; n++) {
            see(object, seen, "orbit 3 5 " + n);
            row(object, seen);
        }
        see(object, seen, "orbit 3 5 21");
        row(object, seen);
    }

    private static void net(Object object, List<String> seen, int cells) {
        see(object, seen, "arrows");
        for (int c = 0; c < cells; c++) {
            see(object, seen, "next " + c);
            see(object, seen, "row 0");
            int last = Integer.parseInt(ask(object, "count 6")) - 1;
            see(object, seen, "row " + last);
            see(object, seen, "leaves " + c);
        }
    }

    private static void words(Object object, List<String> seen) {
        int boxes = Integer.parseInt(ask(object, "count 4"));
        for (int i = 0; i < boxes; i++) {
            for (int j = 0; j < boxes; j++) {
                see(object, seen, "covers " + i + " " + j);
            }
        }
        see(object, seen, "words 5 0");
    }

    /** With the MAP that leads all to u, a CELL is steered to if some PUSH lies in it. */
    private static void pushes(Object object, List<String> seen, int cells) {
        see(object, seen, "use 1");
        see(object, seen, "join 2 2 3");
        for (int c = 0; c < cells; c++) {
            ask(object, "put 2 " + c + " 1");
            see(object, seen, "steer 2 1 1");
            see(object, seen, "plan " + (c == 0 ? 1 : 0));
            ask(object, "put 2 " + c + " 0");
        }
    }
}
