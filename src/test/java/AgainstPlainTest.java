import java.lang.reflect.InvocationTargetException;
import java.lang.reflect.Method;
import java.util.ArrayList;
import java.util.Arrays;
import java.util.List;
import java.util.NoSuchElementException;
import java.util.Random;

/** Runs of calls that are drawn by lot (always the same ones), each compared with the plain words. */
public final class AgainstPlainTest {
    private static final String[] TEXTS = {
        "4*x*(1-x)", "2*x", "(1-x)/2", "x<1/2?2*x:2-2*x", "x*x-a", "x*x-1+n", "x/2+u", "x+u+n", "a*x*(1-x)+u",
        "Ax-A-3+d", "1-A(2*x-1)", "x<a?x+u:x-u+n", "(x<1?x:2)<a?x/3:x*x/7", "-x*x*x/2+a*x", "3*x/4+d/9", "x+1",
        "y;-x", "x/2;y/2", "2*x;y/2", "y;x+y-a", "1-a*x*x+y;3*x/10", "x+u;y+u/2", "x<y?y:x;x<y?x/2:y+n",
        "A(x<y?y:x);x<y?x:y", "(x-y)*3/4;(x+y)*3/4", "x*x-y*y+a;2*x*y+u", "y;0-x/2+y*y/9", "x;y", "x;y+1",
        "-y;x", "x/2+u", "x*3/4+u/2", "x/2+u;y/2-u", "u+x/3;y/2", "x/2+y/4;y/2+u",
        "x+1<2*x-1?x+u:x-1", "x-y<a?x/2:-x;x+y<1?y*x:u-y/2", "x<a?1<a?x/2:-x:x<0?u:n",
    };
    private static final String SIGNS = "xyanud0123456789+-*/()<?:;A";
    private static final int[] EDGES = {0, 1, -1, 2, 3, 4, 5, 6, 7, 12, 13, 20, 21, 60, 61, 127, 128, 1024, 1000000,
        1000001, -1000000, -1000001, Integer.MAX_VALUE, Integer.MIN_VALUE};
    private static final int[] SIDES = {1, 2, 3, 4, 5, 8, 16};

    private final Random lot;
    private final List<Method> methods = new ArrayList<>();
    private RoundMaps maps = new RoundMaps();
    private Plain plain = new Plain();
    private int cells = 1;
    private boolean line = true;
    private int calls = 0;

    private AgainstPlainTest(long seed) {
        lot = new Random(seed);
        for (Method method : RoundMaps.class.getDeclaredMethods()) {
            if (java.lang.reflect.Modifier.isPublic(method.getModifiers())) {
                methods.add(method);
            }
        }
        methods.sort((a, b) -> a.getName().compareTo(b.getName()));
    }

    public static void main(String[] args) throws Exception {
        int runs = args.length > 0 ? Integer.parseInt(args[0]) : 150;
        int from = args.length > 1 ? Integer.parseInt(args[1]) : 0;
        int calls = 0;
        for (int seed = from; seed < from + runs; seed++) {
            calls += new AgainstPlainTest(seed).run(seed);
        }
        System.out.println(calls + " calls as the plain words have them");
    }

    private int run(int seed) throws Exception {
        boolean large = seed % 10 == 0;
        int most = large ? 150 : 450;
        tellText(TEXTS[lot.nextInt(TEXTS.length)]);
        layGrid(large);
        while (calls < most) {
            int kind = lot.nextInt(40);
            if (kind == 0) {
                tellText(lot.nextBoolean() ? TEXTS[lot.nextInt(TEXTS.length)] : drawText());
            } else if (kind == 1 || maps.count(1) == (line ? 1 : 0) && lot.nextInt(10) == 0) {
                layGrid(large);
            } else if (kind < 7) {
                goThroughTheme(kind);
            } else {
                Method method = methods.get(lot.nextInt(methods.size()));
                if (!method.getName().equals("grid") || lot.nextInt(4) == 0) {
                    call(method.getName(), drawArguments(method));
                }
            }
        }
        return calls;
    }

    /** Calls that mean little one by one. */
    private void goThroughTheme(int kind) throws Exception {
        if (kind == 2) {
            call("push", lot.nextInt(2000) - 1000);
            call("steer", lot.nextInt(4), lot.nextInt(4), lot.nextInt(20));
            for (int c = 0; c < cells; c++) {
                call("plan", c);
                call("steps", c);
            }
            call("safe", lot.nextInt(4), lot.nextInt(4));
        } else if (kind == 3) {
            for (int i = 0; i < 6; i++) {
                int from = lot.nextInt(cells);
                call("box", from, from + lot.nextInt(Math.min(3, cells - from)));
            }
            for (int i = 0; i < 36; i++) {
                call("covers", i / 6, i % 6);
            }
            call("words", 1 + lot.nextInt(20), lot.nextInt(2));
            call("word", lot.nextInt() & 0x01010101, 1 + lot.nextInt(8));
        } else if (kind == 4) {
            call("blind");
            for (int i = lot.nextInt(13); i >= 0; i--) {
                call("see", lot.nextInt(6) == 0 ? lot.nextInt(3) : 0);
                call("sense", lot.nextInt(4));
            }
        } else if (kind == 5) {
            int lo = lot.nextInt(4000) - 1000;
            call("letter", 0, lo, lo + lot.nextInt(5000));
            call("change", 1 + lot.nextInt(12));
            call("letter", 0, lo, lo + lot.nextInt(50));
        } else {
            int set = lot.nextInt(4);
            for (int c = 0; c < cells; c++) {
                call("put", set, c, lot.nextInt(3) > 0);
            }
            call("homes", set, 0);
            call("homes", set, 1);
            call("many", set);
            call("core", set, lot.nextInt(4));
            call("safe", set, lot.nextInt(4));
        }
    }

    private void tellText(String text) throws Exception {
        call("end", 0);
        for (int i = 0; i < text.length(); i += 4) {
            int v = 0;
            for (int j = i; j < i + 4; j++) {
                v = (v << 8) + (j < text.length() ? text.charAt(j) : 'x');
            }
            call("sign", v);
        }
        call("end", text.length());
        if (((Number) call("map")).intValue() == -100) {
            if (lot.nextInt(3) == 0) {
                maps = new RoundMaps();
                plain = new Plain();
                cells = 1;
                line = true;
                tellText(text);
            } else {
                call("use", lot.nextInt(4));
            }
        }
    }

    private String drawText() {
        int length = lot.nextInt(3) == 0 ? 55 + lot.nextInt(40) : lot.nextInt(30);
        StringBuilder text = new StringBuilder();
        if (lot.nextBoolean()) {
            drawFormula(text, length);
            if (lot.nextBoolean()) {
                text.append(';');
                drawFormula(text, length);
            }
            if (lot.nextInt(3) == 0 && text.length() > 0) {
                text.setCharAt(lot.nextInt(text.length()), SIGNS.charAt(lot.nextInt(SIGNS.length())));
            }
        } else {
            for (int i = 0; i < length; i++) {
                text.append(SIGNS.charAt(lot.nextInt(SIGNS.length())));
            }
        }
        return text.length() > 96 ? text.substring(0, 96) : text.toString();
    }

    private void drawFormula(StringBuilder text, int room) {
        int kind = room < 3 ? 0 : lot.nextInt(8);
        if (kind == 0) {
            text.append(lot.nextInt(3) == 0 ? "" + lot.nextInt(lot.nextInt(3) == 0 ? 10000 : 4)
                : "" + "xyanud".charAt(lot.nextInt(6)));
        } else if (kind == 1) {
            text.append(lot.nextBoolean() ? '-' : 'A');
            drawFormula(text, 0);
        } else if (kind == 2 && room > 10) {
            drawFormula(text, 1);
            text.append('<');
            drawFormula(text, 1);
            text.append('?');
            drawFormula(text, room / 3);
            text.append(':');
            drawFormula(text, room / 3);
        } else if (kind == 3) {
            text.append('(');
            drawFormula(text, room - 3);
            text.append(')');
        } else if (kind == 4) {
            drawFormula(text, 0);
            text.append('/').append(1 + lot.nextInt(lot.nextBoolean() ? 9 : 999));
        } else {
            text.append('(');
            drawFormula(text, room / 2);
            text.append(')').append("+-*".charAt(lot.nextInt(3)));
            drawFormula(text, lot.nextBoolean() ? room / 3 : 0);
        }
    }

    private void layGrid(boolean large) throws Exception {
        boolean flat = maps.count(1) == 0;
        int w = SIDES[lot.nextInt(SIDES.length)];
        int h = flat ? 1 : SIDES[lot.nextInt(large ? SIDES.length : 4)];
        int across = drawWidth(w);
        int up = drawWidth(h);
        int x0 = lot.nextBoolean() ? 0 : -w * across / 2;
        int y0 = flat || lot.nextBoolean() ? 0 : -h * up / 2;
        call("grid", x0, x0 + w * across, w, y0, flat ? 0 : y0 + h * up, h);
        if (lot.nextInt(3) > 0) {
            call("letter", 0, lot.nextInt(4) * 512, 2048);
        }
        for (int i = 0; i < 6; i++) {
            call("put", lot.nextInt(4), lot.nextInt(cells), true);
            call("sight", lot.nextInt(cells), lot.nextInt(3));
        }
        call("fine", lot.nextInt(large ? 2 : 3));
    }

    private int drawWidth(int n) {
        int kind = lot.nextInt(4);
        return kind == 0 ? 1 + lot.nextInt(8) : kind == 1 ? 1 + lot.nextInt(600) : Math.max(1, 1024 * kind / n);
    }

    private Object[] drawArguments(Method method) {
        Class<?>[] types = method.getParameterTypes();
        Object[] arguments = new Object[types.length];
        for (int i = 0; i < types.length; i++) {
            arguments[i] = types[i] == boolean.class ? (Object) lot.nextBoolean() : (Object) drawNumber(method.getName(), i);
        }
        String name = method.getName();
        boolean ordered = name.equals("shut") || name.equals("finer") || name.equals("slope");
        for (int i = 0; ordered && lot.nextInt(8) > 0 && i + 1 < arguments.length; i += 2) {
            int lo = (int) arguments[i];
            arguments[i + 1] = lot.nextInt(30) == 0 ? arguments[i + 1] : (Object) (lo + lot.nextInt(2000));
        }
        if (name.equals("letter") && lot.nextInt(8) > 0) {
            int lo = lot.nextInt(3000) - 1000;
            arguments[0] = lot.nextInt(3);
            arguments[1] = lo;
            arguments[2] = lo + (lot.nextBoolean() ? 0 : lot.nextInt(300));
        }
        return arguments;
    }

    private int drawNumber(String name, int i) {
        if (lot.nextInt(25) == 0) {
            return EDGES[lot.nextInt(EDGES.length)];
        }
        switch (name) {
            case "sign": return lot.nextInt();
            case "push": return lot.nextInt(1000) - 500;
            case "drive": return i == 0 ? lot.nextInt(5) - 1 : i == 1 ? lot.nextInt(24) - 2 : lot.nextInt(100000) - 50000;
            case "shut": case "slope": return lot.nextInt(6000) - 3000;
            case "finer": return i == 4 ? lot.nextInt(5) : lot.nextInt(6000) - 3000;
            case "orbit": return i == 2 ? lot.nextInt(8) : lot.nextInt(4000) - 2000;
            case "cell": return lot.nextInt(3000) - 1000;
            case "next": case "back": case "leaves": case "heap": case "plan": case "steps": case "turning": case "box":
                return lot.nextInt(cells + 1);
            case "has": case "put": return i == 0 ? lot.nextInt(5) : lot.nextInt(cells + 1);
            case "sight": return i == 0 ? lot.nextInt(cells) : lot.nextInt(11);
            case "see": return lot.nextInt(4);
            case "ring": case "stable": return i == 0 ? lot.nextInt(cells) : 1 + lot.nextInt(5);
            case "rings": return lot.nextInt(62);
            case "steer": return i == 2 ? lot.nextInt(9) : lot.nextInt(4);
            case "change": return lot.nextInt(14);
            case "word": return i == 0 ? lot.nextInt() & 0x01111111 : lot.nextInt(9);
            case "words": return i == 0 ? lot.nextInt(21) : lot.nextInt(3);
            default: return lot.nextInt(5);
        }
    }

    private Object call(String name, Object... arguments) throws Exception {
        calls++;
        Object got = answer(maps, name, arguments);
        Object want = answer(plain, name, arguments);
        List<Integer> row = Check.rowOf(maps);
        List<Integer> due = new ArrayList<>();
        for (int i = 0; i < plain.count(6); i++) {
            due.add(plain.row(i));
        }
        if (!got.equals(want) || !row.equals(due)) {
            System.out.println(name + Arrays.toString(arguments) + " answered " + got + " " + row
                + ", due is " + want + " " + due);
            System.exit(1);
        }
        if (name.equals("grid")) {
            cells = maps.count(2);
            line = (int) got < 0 ? line : maps.count(1) == 0;
        }
        return got;
    }

    private static Object answer(Object object, String name, Object[] arguments) throws Exception {
        Class<?>[] types = new Class<?>[arguments.length];
        for (int i = 0; i < types.length; i++) {
            types[i] = arguments[i] instanceof Boolean ? boolean.class : int.class;
        }
        try {
            return object.getClass().getDeclaredMethod(name, types).invoke(object, arguments);
        } catch (InvocationTargetException e) {
            if (e.getCause() instanceof NoSuchElementException) {
                return "NoSuchElementException";
            }
            throw e;
        }
    }
}
