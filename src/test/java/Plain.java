import java.math.BigInteger;
import java.util.ArrayList;
import java.util.Collections;
import java.util.List;
import java.util.NoSuchElementException;
import java.util.TreeSet;

/**
 * The document's words once more, told as plainly as can be and with the whole library, so that the class
 * can be compared with it. It shares no way of working with the class: trees in place of code, sets in place
 * of bits, and it keeps nothing that it has worked out.
 */
public final class Plain {
    private static final int NONE = -1;
    private static final BigInteger BIG = BigInteger.valueOf(Integer.MAX_VALUE);
    private static final BigInteger ONE = BigInteger.valueOf(1024);

    /** Ends are kept within BIG by the one way to make a SPAN. */
    private static final class Span {
        final BigInteger lo;
        final BigInteger hi;

        Span(BigInteger lo, BigInteger hi) {
            this.lo = lo.max(BIG.negate()).min(BIG);
            this.hi = hi.max(BIG.negate()).min(BIG);
        }

        static Span of(long lo, long hi) {
            return new Span(BigInteger.valueOf(lo), BigInteger.valueOf(hi));
        }

        Span plus(Span o) {
            return new Span(lo.add(o.lo), hi.add(o.hi));
        }

        Span less() {
            return new Span(hi.negate(), lo.negate());
        }

        Span minus(Span o) {
            return new Span(lo.subtract(o.hi), hi.subtract(o.lo));
        }

        Span times(Span o) {
            List<BigInteger> all = List.of(lo.multiply(o.lo), lo.multiply(o.hi), hi.multiply(o.lo), hi.multiply(o.hi));
            return new Span(down(Collections.min(all), ONE), up(Collections.max(all), ONE));
        }

        Span by(int k) {
            return new Span(down(lo, BigInteger.valueOf(k)), up(hi, BigInteger.valueOf(k)));
        }

        Span absolute() {
            return lo.signum() >= 0 ? this : hi.signum() <= 0 ? less() : new Span(BigInteger.ZERO, lo.negate().max(hi));
        }

        Span hull(Span o) {
            return new Span(lo.min(o.lo), hi.max(o.hi));
        }

        int low() {
            return lo.intValueExact();
        }

        int high() {
            return hi.intValueExact();
        }

        private static BigInteger down(BigInteger a, BigInteger k) {
            BigInteger[] parts = a.divideAndRemainder(k);
            return parts[1].signum() < 0 ? parts[0].subtract(BigInteger.ONE) : parts[0];
        }

        private static BigInteger up(BigInteger a, BigInteger k) {
            return down(a.negate(), k).negate();
        }
    }

    private static final class Node {
        final char kind;
        final int number;
        final Node[] parts;

        Node(char kind, int number, Node... parts) {
            this.kind = kind;
            this.number = number;
            this.parts = parts;
        }
    }

    private static final class Wrong extends RuntimeException {
        private static final long serialVersionUID = 1;
        final int place;

        Wrong(int place) {
            this.place = place;
        }
    }

    /** Recursive descent; a text's end is the sign 1000. */
    private static final class Descent {
        private final String text;
        private int at = 0;

        Descent(String text) {
            this.text = text;
        }

        int sign() {
            return at < text.length() ? text.charAt(at) : 1000;
        }

        void take(char c) {
            if (sign() != c) {
                throw new Wrong(at);
            }
            at++;
        }

        List<Node> all() {
            List<Node> formulas = new ArrayList<>();
            formulas.add(formula());
            if (sign() == ';') {
                at++;
                formulas.add(formula());
            }
            if (sign() != 1000) {
                throw new Wrong(at);
            }
            return formulas;
        }

        Node formula() {
            Node left = sum();
            if (sign() != '<') {
                return left;
            }
            at++;
            Node right = sum();
            take('?');
            Node first = formula();
            take(':');
            return new Node('?', 0, left, right, first, formula());
        }

        Node sum() {
            Node node = product();
            while (sign() == '+' || sign() == '-') {
                char kind = text.charAt(at++);
                node = new Node(kind, 0, node, product());
            }
            return node;
        }

        Node product() {
            Node node = thing();
            while (sign() == '*' || sign() == '/') {
                if (text.charAt(at++) == '*') {
                    node = new Node('*', 0, node, thing());
                } else {
                    if (sign() == '0') {
                        throw new Wrong(at);
                    }
                    node = new Node('/', number(3), node);
                }
            }
            return node;
        }

        int number(int most) {
            int from = at;
            while (at - from < most && sign() >= '0' && sign() <= '9') {
                at++;
            }
            if (at == from) {
                throw new Wrong(at);
            }
            return Integer.parseInt(text.substring(from, at));
        }

        Node thing() {
            int c = sign();
            if (c == '-' || c == 'A') {
                at++;
                return new Node(c == '-' ? 'm' : 'A', 0, thing());
            }
            if (c == '(') {
                at++;
                Node node = formula();
                take(')');
                return node;
            }
            if (c >= '0' && c <= '9') {
                return new Node('#', number(4));
            }
            if ("xyanud".indexOf(c) < 0) {
                throw new Wrong(at);
            }
            at++;
            return new Node((char) c, 0);
        }
    }

    private final StringBuilder tape = new StringBuilder();
    private final List<List<Node>> maps = new ArrayList<>();
    private int used = NONE;
    private Span a = Span.of(0, 0);
    private Span n = Span.of(0, 0);
    private Span d = Span.of(0, 0);
    private Span u = Span.of(0, 0);
    private final List<Integer> pushes = new ArrayList<>(List.of(0));
    private List<Integer> driven = new ArrayList<>();
    private List<Integer> told = new ArrayList<>();
    private boolean plane = false;
    private int x0 = 0;
    private int x1 = 1024;
    private int w = 1;
    private int y0 = 0;
    private int y1 = 0;
    private int h = 1;
    private int fineness = 0;
    private final List<TreeSet<Integer>> sets = new ArrayList<>();
    private final List<int[]> boxes = new ArrayList<>();
    private int[] steered = null;
    private int[] planned = null;
    private int[] sights = new int[1];
    private final List<Integer> seen = new ArrayList<>();
    private int undecided = 0;
    private Span atX;
    private Span atY;

    public Plain() {
        for (int i = 0; i < 4; i++) {
            sets.add(new TreeSet<>());
        }
    }

    // ---- maps

    public int sign(int v) {
        if (tape.length() + 4 > 100) {
            return NONE;
        }
        for (int shift = 24; shift >= 0; shift -= 8) {
            tape.append((char) ((v >> shift) & 255));
        }
        return tape.length();
    }

    public boolean end(int count) {
        if (count < 0 || count > tape.length()) {
            return false;
        }
        tape.setLength(count);
        return true;
    }

    public int map() {
        String text = tape.toString();
        tape.setLength(0);
        if (maps.size() == 4) {
            return -100;
        }
        String first = text.length() > 60 ? text.substring(0, 60) : text;
        try {
            List<Node> formulas = new Descent(first).all();
            if (text.length() > 60) {
                return -61;
            }
            maps.add(formulas);
            used = maps.size() - 1;
            return used;
        } catch (Wrong wrong) {
            return -1 - wrong.place;
        }
    }

    public boolean use(int map) {
        if (map < 0 || map >= maps.size()) {
            return false;
        }
        used = map;
        return true;
    }

    public boolean letter(int what, int lo, int hi) {
        if (what < 0 || what > 2 || badSpan(lo, hi)) {
            return false;
        }
        Span span = Span.of(lo, hi);
        if (what == 0) {
            a = span;
        } else if (what == 1) {
            n = span;
        } else {
            d = span;
        }
        return true;
    }

    public int push(int v) {
        if (badNumber(v) || pushes.size() == 4) {
            return NONE;
        }
        pushes.add(v);
        return pushes.size();
    }

    public int drive(int kind, int count, int f, int step) {
        if (kind < 0 || kind > 3 || count > 20) {
            return NONE;
        }
        if (kind == 3) {
            driven = new ArrayList<>();
            return -3;
        }
        if (count < 0) {
            return -2;
        }
        driven = new ArrayList<>();
        int entry = f;
        for (int i = 0; i < count; i++) {
            driven.add(kind == 0 ? (int) (byte) entry : kind == 1 ? (int) (short) entry : entry);
            entry += step;
        }
        return count;
    }

    public int count(int what) {
        int[] all = {maps.size(), used >= 0 && isPlane() ? 1 : 0, cells(), pushes.size(), boxes.size(), seen.size(),
            told.size(), tape.length(), fineness, used};
        return what < 0 || what >= all.length ? NONE : all[what];
    }

    // ---- images

    public int shut(int xlo, int xhi, int ylo, int yhi) {
        if (used < 0 || badSpan(xlo, xhi) || badSpan(ylo, yhi)) {
            return NONE;
        }
        undecided = 0;
        Span[] image = image(Span.of(xlo, xhi), Span.of(ylo, yhi));
        tell(image);
        return undecided;
    }

    public int finer(int xlo, int xhi, int ylo, int yhi, int k) {
        if (used < 0 || badSpan(xlo, xhi) || badSpan(ylo, yhi) || k < 0 || k > 3) {
            return NONE;
        }
        Span[] hull = null;
        for (Span[] part : parts(xlo, xhi, ylo, yhi, k)) {
            Span[] image = image(part[0], part[1]);
            hull = hull == null ? image : new Span[] {hull[0].hull(image[0]), hull[1].hull(image[1])};
        }
        tell(hull);
        return hull[0].hi.subtract(hull[0].lo).min(BIG).intValueExact();
    }

    public int slope(int xlo, int xhi) {
        if (used < 0 || isPlane() || badSpan(xlo, xhi)) {
            return NONE;
        }
        Span slope = slopeOver(Span.of(xlo, xhi), 1);
        if (slope == null) {
            return 1;
        }
        told = new ArrayList<>(List.of(slope.low(), slope.high()));
        return 0;
    }

    public int orbit(int x, int y, int count) {
        if (used < 0 || badNumber(x) || badNumber(y) || count < 0 || count > 60) {
            return NONE;
        }
        undecided = 0;
        Span kept = d;
        Span[] at = {Span.of(x, x), Span.of(y, y)};
        for (int t = 0; t < count; t++) {
            d = t < driven.size() ? Span.of(driven.get(t), driven.get(t)) : kept;
            at = image(at[0], at[1]);
        }
        d = kept;
        tell(at);
        return undecided;
    }

    // ---- the net

    public int grid(int left, int right, int columns, int bottom, int top, int rows) {
        if (used < 0 || badSide(left, right, columns)) {
            return NONE;
        }
        if (isPlane() ? badSide(bottom, top, rows) || columns * rows > 128 : bottom != 0 || top != 0 || rows != 1) {
            return NONE;
        }
        plane = isPlane();
        x0 = left;
        x1 = right;
        w = columns;
        y0 = bottom;
        y1 = top;
        h = rows;
        for (TreeSet<Integer> set : sets) {
            set.clear();
        }
        boxes.clear();
        sights = new int[cells()];
        seen.clear();
        steered = null;
        return cells();
    }

    public int fine(int k) {
        if (k < 0 || k > 2) {
            return NONE;
        }
        int was = fineness;
        fineness = k;
        return was;
    }

    public int arrows() {
        if (noNet()) {
            return NONE;
        }
        int sum = 0;
        for (TreeSet<Integer> to : net()) {
            sum += to.size();
        }
        return sum;
    }

    public int next(int cell) {
        if (noNet() || noCell(cell)) {
            return NONE;
        }
        return list(targets(cell), 1000);
    }

    public int back(int cell) {
        if (noNet() || noCell(cell)) {
            return NONE;
        }
        TreeSet<Integer> from = new TreeSet<>();
        for (int c = 0; c < cells(); c++) {
            if (targets(c).contains(cell)) {
                from.add(c);
            }
        }
        return list(from, 1000);
    }

    public int leaves(int cell) {
        if (noNet() || noCell(cell)) {
            return NONE;
        }
        return leaving(cell) ? 1 : 0;
    }

    public int cell(int x, int y) {
        for (int c = 0; c < cells(); c++) {
            int[] box = boxOf(c);
            if (x >= box[0] && x <= box[1] && (!plane || y >= box[2] && y <= box[3])) {
                return c;
            }
        }
        return NONE;
    }

    // ---- sets

    public int put(int set, int cell, boolean is) {
        if (noSet(set) || noCell(cell)) {
            return NONE;
        }
        sets.get(set).remove(cell);
        if (is) {
            sets.get(set).add(cell);
        }
        return sets.get(set).size();
    }

    public int join(int s, int t, int what) {
        if (noSet(s) || noSet(t) || what < 0 || what > 4) {
            return NONE;
        }
        TreeSet<Integer> out = new TreeSet<>();
        for (int c = 0; c < cells(); c++) {
            boolean inS = sets.get(s).contains(c);
            boolean inT = sets.get(t).contains(c);
            boolean[] is = {inS, inS && inT, inS || inT, inT && !inS, !inS};
            if (is[what]) {
                out.add(c);
            }
        }
        return becomes(t, out);
    }

    public int many(int set) {
        return noSet(set) ? NONE : list(sets.get(set), 40);
    }

    public int has(int set, int cell) {
        return noSet(set) || noCell(cell) ? NONE : sets.get(set).contains(cell) ? 1 : 0;
    }

    public int core(int s, int t) {
        if (noSet(s) || noSet(t) || noNet()) {
            return NONE;
        }
        List<TreeSet<Integer>> net = net();
        TreeSet<Integer> part = new TreeSet<>(sets.get(s));
        while (true) {
            TreeSet<Integer> kept = new TreeSet<>();
            for (int c : part) {
                boolean to = false;
                boolean from = false;
                for (int o : part) {
                    to |= net.get(c).contains(o);
                    from |= net.get(o).contains(c);
                }
                if (to && from) {
                    kept.add(c);
                }
            }
            if (kept.equals(part)) {
                return becomes(t, part);
            }
            part = kept;
        }
    }

    public int reach(int s, int t, int what) {
        if (noSet(s) || noSet(t) || what < 0 || what > 3 || noNet()) {
            return NONE;
        }
        TreeSet<Integer> goal = sets.get(s);
        TreeSet<Integer> out = new TreeSet<>();
        List<TreeSet<Integer>> ways = ways();
        if (what == 0) {
            for (int c : goal) {
                out.addAll(ways.get(c));
            }
        } else if (what == 2) {
            out.addAll(goal);
            for (boolean more = true; more;) {
                more = false;
                for (int c = 0; c < cells(); c++) {
                    more |= surely(c, out) && out.add(c);
                }
            }
        } else {
            for (int c = 0; c < cells(); c++) {
                boolean comes = !Collections.disjoint(ways.get(c), goal);
                if (what == 1 ? comes : !comes && !goal.contains(c)) {
                    out.add(c);
                }
            }
        }
        return becomes(t, out);
    }

    public int trap(int set) {
        if (noSet(set) || noNet()) {
            return NONE;
        }
        for (int c : sets.get(set)) {
            if (!surely(c, sets.get(set))) {
                return 0;
            }
        }
        return 1;
    }

    // ---- heaps

    public int heaps() {
        return noNet() ? NONE : allHeaps().size();
    }

    public int heap(int cell) {
        if (noNet() || noCell(cell)) {
            return NONE;
        }
        List<TreeSet<Integer>> all = allHeaps();
        for (int i = 0; i < all.size(); i++) {
            if (all.get(i).contains(cell)) {
                return i;
            }
        }
        return NONE;
    }

    public int order(int i, int j) {
        if (noNet() || noHeap(i) || noHeap(j)) {
            return NONE;
        }
        List<TreeSet<Integer>> all = allHeaps();
        return ways().get(all.get(i).last()).contains(all.get(j).last()) ? 1 : 0;
    }

    public int take(int i, int t) {
        return noNet() || noHeap(i) || noSet(t) ? NONE : becomes(t, allHeaps().get(i));
    }

    public int change(int k) {
        if (noNet() || k < 1 || k > 12) {
            return NONE;
        }
        Span kept = a;
        List<Integer> counts = new ArrayList<>();
        int changes = 0;
        for (int i = 0; i < k; i++) {
            int[] ends = cut(kept.low(), kept.high(), i, k);
            a = Span.of(ends[0], ends[1]);
            counts.add(allHeaps().size());
            if (i > 0 && !counts.get(i).equals(counts.get(i - 1))) {
                changes++;
            }
        }
        a = kept;
        told = counts;
        return changes;
    }

    // ---- rings

    public int ring(int cell, int count) {
        if (noNet() || plane || noCell(cell) || count < 1 || count > 12) {
            return NONE;
        }
        int[] box = boxOf(cell);
        undecided = 0;
        Span round = round(Span.of(box[0], box[1]), count);
        if (round.high() < box[0] || round.low() > box[1]) {
            return 0;
        }
        if (undecided > 0) {
            return 4;
        }
        for (Span span : List.of(a, n, d)) {
            if (span.low() != span.high()) {
                return 5;
            }
        }
        Span first = round(Span.of(box[0], box[0]), count).minus(Span.of(box[0], box[0]));
        Span last = round(Span.of(box[1], box[1]), count).minus(Span.of(box[1], box[1]));
        boolean some = first.low() > 0 && last.high() < 0 || first.high() < 0 && last.low() > 0;
        Span slope = slopeOver(Span.of(box[0], box[1]), count);
        boolean noTwo = slope.low() > 1024 || slope.high() < 1024;
        return some && noTwo ? 2 : some ? 1 : noTwo ? 3 : 5;
    }

    public int stable(int cell, int count) {
        if (noNet() || plane || noCell(cell) || count < 1 || count > 12) {
            return NONE;
        }
        int[] box = boxOf(cell);
        Span slope = slopeOver(Span.of(box[0], box[1]), count);
        if (slope == null) {
            return 2;
        }
        return slope.low() > -1024 && slope.high() < 1024 ? 1 : slope.low() > 1024 || slope.high() < -1024 ? 0 : 2;
    }

    public int rings(int count) {
        if (noNet() || count < 1 || count > 60) {
            return NONE;
        }
        List<TreeSet<Integer>> net = net();
        TreeSet<Integer> out = new TreeSet<>();
        for (int c = 0; c < cells(); c++) {
            TreeSet<Integer> now = new TreeSet<>(List.of(c));
            for (int i = 0; i < count; i++) {
                TreeSet<Integer> then = new TreeSet<>();
                for (int o : now) {
                    then.addAll(net.get(o));
                }
                now = then;
            }
            if (now.contains(c)) {
                out.add(c);
            }
        }
        return list(out, 40);
    }

    public int turning(int from, int to) {
        if (noNet() || !plane || noCell(from) || noCell(to) || from % w > to % w || from / w > to / w) {
            return NONE;
        }
        List<Integer> facings = new ArrayList<>();
        for (int c = from % w; c <= to % w; c++) {
            int[] box = boxOf(from / w * w + c);
            facings.add(facing(box[0], box[1], box[2], box[2]));
        }
        for (int r = from / w; r <= to / w; r++) {
            int[] box = boxOf(r * w + to % w);
            facings.add(facing(box[1], box[1], box[2], box[3]));
        }
        for (int c = to % w; c >= from % w; c--) {
            int[] box = boxOf(to / w * w + c);
            facings.add(facing(box[0], box[1], box[3], box[3]));
        }
        for (int r = to / w; r >= from / w; r--) {
            int[] box = boxOf(r * w + from % w);
            facings.add(facing(box[0], box[0], box[2], box[3]));
        }
        int sum = 0;
        for (int i = 0; i < facings.size(); i++) {
            int one = facings.get(i);
            int two = facings.get((i + 1) % facings.size());
            if (one < 0 || two < 0 || (two - one + 4) % 4 == 2) {
                return 0;
            }
            sum += new int[] {0, 1, 2, -1}[(two - one + 4) % 4];
        }
        told = new ArrayList<>(List.of(sum / 4));
        return 1;
    }

    // ---- words

    public int box(int from, int to) {
        if (noNet() || plane || noCell(from) || noCell(to) || to < from || boxes.size() == 6) {
            return NONE;
        }
        boxes.add(new int[] {boxOf(from)[0], boxOf(to)[1]});
        return boxes.size() - 1;
    }

    public int covers(int i, int j) {
        if (noNet() || plane || noBox(i) || noBox(j)) {
            return NONE;
        }
        return isCovering(i, j) ? 1 : 0;
    }

    public long words(int count, int what) {
        if (noNet() || plane || count < 1 || count > 20 || what < 0 || what > 1) {
            return NONE;
        }
        int m = boxes.size();
        BigInteger[][] power = new BigInteger[m][m];
        boolean[][] cover = new boolean[m][m];
        for (int i = 0; i < m; i++) {
            for (int j = 0; j < m; j++) {
                power[i][j] = i == j ? BigInteger.ONE : BigInteger.ZERO;
                cover[i][j] = isCovering(i, j);
            }
        }
        for (int step = 1; step < count + what; step++) {
            BigInteger[][] then = new BigInteger[m][m];
            for (int i = 0; i < m; i++) {
                for (int j = 0; j < m; j++) {
                    then[i][j] = BigInteger.ZERO;
                    for (int k = 0; k < m; k++) {
                        then[i][j] = cover[k][j] ? then[i][j].add(power[i][k]) : then[i][j];
                    }
                }
            }
            power = then;
        }
        BigInteger sum = BigInteger.ZERO;
        for (int i = 0; i < m; i++) {
            for (int j = 0; j < m; j++) {
                sum = what == 0 || i == j ? sum.add(power[i][j]) : sum;
            }
        }
        return sum.longValueExact();
    }

    public int word(int told, int count) {
        if (noNet() || plane || count < 1 || count > 8) {
            return NONE;
        }
        List<Integer> letters = new ArrayList<>();
        long rest = told & 0xffffffffL;
        for (int i = 0; i < count; i++) {
            letters.add((int) (rest % 16));
            rest /= 16;
        }
        boolean is = true;
        for (int i = 0; i < count; i++) {
            if (noBox(letters.get(i))) {
                return NONE;
            }
        }
        for (int i = 0; i + 1 < count; i++) {
            is &= isCovering(letters.get(i), letters.get(i + 1));
        }
        return is ? 1 : 0;
    }

    // ---- steering

    public int steer(int s, int t, int count) {
        if (noSet(s) || noSet(t) || count < 0 || count > 60 || noNet()) {
            return NONE;
        }
        steered = new int[cells()];
        planned = new int[cells()];
        TreeSet<Integer> out = new TreeSet<>(sets.get(s));
        for (int c = 0; c < cells(); c++) {
            steered[c] = out.contains(c) ? 0 : NONE;
            planned[c] = NONE;
        }
        for (int step = 1; step <= count; step++) {
            TreeSet<Integer> then = new TreeSet<>(out);
            for (int c = 0; c < cells(); c++) {
                int push = out.contains(c) ? NONE : pushInto(c, out);
                if (push >= 0) {
                    then.add(c);
                    steered[c] = step;
                    planned[c] = push;
                }
            }
            if (then.size() == out.size()) {
                break;
            }
            out = then;
        }
        return becomes(t, out);
    }

    public int plan(int cell) {
        return steered == null || noCell(cell) ? NONE : planned[cell];
    }

    public int steps(int cell) {
        return steered == null || noCell(cell) ? NONE : steered[cell];
    }

    public int safe(int s, int t) {
        if (noSet(s) || noSet(t) || noNet()) {
            return NONE;
        }
        TreeSet<Integer> part = new TreeSet<>(sets.get(s));
        while (true) {
            TreeSet<Integer> kept = new TreeSet<>();
            for (int c : part) {
                if (pushInto(c, part) >= 0) {
                    kept.add(c);
                }
            }
            if (kept.size() == part.size()) {
                return becomes(t, part);
            }
            part = kept;
        }
    }

    // ---- sights

    public int sight(int cell, int v) {
        if (noCell(cell) || v < 0 || v > 9) {
            return NONE;
        }
        int was = sights[cell];
        sights[cell] = v;
        return was;
    }

    public int see(int v) {
        if (v < 0 || v > 9 || seen.size() == 12) {
            return NONE;
        }
        seen.add(v);
        return seen.size();
    }

    public int blind() {
        int was = seen.size();
        seen.clear();
        return was;
    }

    public int sense(int t) {
        if (noSet(t) || noNet()) {
            return NONE;
        }
        List<TreeSet<Integer>> net = net();
        TreeSet<Integer> out = new TreeSet<>();
        for (int c = 0; c < cells(); c++) {
            out.add(c);
        }
        for (int i = 0; i < seen.size(); i++) {
            TreeSet<Integer> now = new TreeSet<>();
            for (int c = 0; c < cells(); c++) {
                boolean comes = i == 0;
                for (int o : out) {
                    comes |= net.get(o).contains(c);
                }
                if (comes && sights[c] == seen.get(i)) {
                    now.add(c);
                }
            }
            out = now;
        }
        return becomes(t, out);
    }

    public int homes(int set, int what) {
        if (noSet(set) || what < 0 || what > 1) {
            return NONE;
        }
        int[] part = new int[cells()];
        boolean[] in = new boolean[cells()];
        for (int c = 0; c < cells(); c++) {
            part[c] = c;
            in[c] = sets.get(set).contains(c) == (what == 0);
        }
        for (int c = 0; c < cells(); c++) {
            for (int o = 0; o < cells(); o++) {
                int across = Math.abs(c % w - o % w);
                int up = Math.abs(c / w - o / w);
                if (in[c] && in[o] && (what == 0 ? Math.max(across, up) == 1 : across + up == 1)) {
                    int from = part[c];
                    for (int i = 0; i < cells(); i++) {
                        part[i] = part[i] == from ? part[o] : part[i];
                    }
                }
            }
        }
        TreeSet<Integer> parts = new TreeSet<>();
        TreeSet<Integer> rims = new TreeSet<>();
        for (int c = 0; c < cells(); c++) {
            if (in[c]) {
                parts.add(part[c]);
                if (c % w == 0 || c % w == w - 1 || c / w == 0 || c / w == h - 1) {
                    rims.add(part[c]);
                }
            }
        }
        return what == 0 ? parts.size() : parts.size() - rims.size();
    }

    public int row(int i) {
        if (i < 0 || i >= told.size()) {
            throw new NoSuchElementException();
        }
        return told.get(i);
    }

    // ---- what they share

    private static boolean badNumber(int v) {
        return v < -1000000 || v > 1000000;
    }

    private static boolean badSpan(int lo, int hi) {
        return lo > hi || badNumber(lo) || badNumber(hi);
    }

    private static boolean badSide(int from, int to, int count) {
        return badNumber(from) || badNumber(to) || from >= to || count < 1 || count > 16 || (to - from) % count != 0;
    }

    private boolean isPlane() {
        return maps.get(used).size() == 2;
    }

    private boolean noNet() {
        return used < 0 || isPlane() != plane;
    }

    private boolean noCell(int cell) {
        return cell < 0 || cell >= cells();
    }

    private boolean noSet(int set) {
        return set < 0 || set > 3;
    }

    private boolean noHeap(int i) {
        return i < 0 || i >= allHeaps().size();
    }

    private boolean noBox(int i) {
        return i < 0 || i >= boxes.size();
    }

    private int cells() {
        return w * h;
    }

    private int becomes(int t, TreeSet<Integer> cells) {
        TreeSet<Integer> out = new TreeSet<>(cells);
        sets.set(t, out);
        return out.size();
    }

    private int list(TreeSet<Integer> cells, int most) {
        told = new ArrayList<>(cells);
        told = new ArrayList<>(told.subList(0, Math.min(most, told.size())));
        return cells.size();
    }

    private void tell(Span[] image) {
        told = new ArrayList<>(List.of(image[0].low(), image[0].high()));
        if (isPlane()) {
            told.add(image[1].low());
            told.add(image[1].high());
        }
    }

    private Span value(Node node) {
        switch (node.kind) {
            case '#': return Span.of(node.number * 1024L, node.number * 1024L);
            case 'x': return atX;
            case 'y': return atY;
            case 'a': return a;
            case 'n': return n;
            case 'u': return u;
            case 'd': return d;
            case 'm': return value(node.parts[0]).less();
            case 'A': return value(node.parts[0]).absolute();
            case '*': return value(node.parts[0]).times(value(node.parts[1]));
            case '/': return value(node.parts[0]).by(node.number);
            case '+': return value(node.parts[0]).plus(value(node.parts[1]));
            case '-': return value(node.parts[0]).minus(value(node.parts[1]));
            default:
                int chosen = chosen(node);
                if (chosen > 0) {
                    return value(node.parts[chosen]);
                }
                undecided++;
                return value(node.parts[2]).hull(value(node.parts[3]));
        }
    }

    private int chosen(Node test) {
        Span l = value(test.parts[0]);
        Span r = value(test.parts[1]);
        return l.hi.compareTo(r.lo) < 0 ? 2 : l.lo.compareTo(r.hi) >= 0 ? 3 : 0;
    }

    /** The SLOPE of a formula, or null. */
    private Span slopeOf(Node node) {
        if (node.kind == '?') {
            int chosen = chosen(node);
            return chosen > 0 ? slopeOf(node.parts[chosen]) : null;
        }
        Span[] slopes = new Span[node.parts.length];
        for (int i = 0; i < slopes.length; i++) {
            slopes[i] = slopeOf(node.parts[i]);
            if (slopes[i] == null) {
                return null;
            }
        }
        switch (node.kind) {
            case 'x': return Span.of(1024, 1024);
            case 'm': return slopes[0].less();
            case '/': return slopes[0].by(node.number);
            case '+': return slopes[0].plus(slopes[1]);
            case '-': return slopes[0].minus(slopes[1]);
            case '*': return slopes[0].times(value(node.parts[1])).plus(value(node.parts[0]).times(slopes[1]));
            case 'A':
                Span inside = value(node.parts[0]);
                return inside.low() >= 0 ? slopes[0] : inside.high() <= 0 ? slopes[0].less()
                    : slopes[0].hull(slopes[0].less());
            default: return Span.of(0, 0);
        }
    }

    private Span[] image(Span x, Span y) {
        List<Node> formulas = maps.get(used);
        atX = x;
        atY = isPlane() ? y : Span.of(0, 0);
        return new Span[] {value(formulas.get(0)), isPlane() ? value(formulas.get(1)) : Span.of(0, 0)};
    }

    private Span round(Span span, int count) {
        Span now = span;
        for (int i = 0; i < count; i++) {
            now = image(now, Span.of(0, 0))[0];
        }
        return now;
    }

    private Span slopeOver(Span span, int count) {
        Span now = span;
        Span all = null;
        for (int i = 0; i < count; i++) {
            atX = now;
            atY = Span.of(0, 0);
            Span slope = slopeOf(maps.get(used).get(0));
            if (slope == null) {
                return null;
            }
            all = all == null ? slope : all.times(slope);
            now = image(now, Span.of(0, 0))[0];
        }
        return all;
    }

    private int[] cut(int lo, int hi, int i, int count) {
        long side = (long) hi - lo;
        return new int[] {(int) (lo + i * side / count), (int) (lo + (i + 1) * side / count)};
    }

    private List<Span[]> parts(int xlo, int xhi, int ylo, int yhi, int k) {
        List<Span[]> all = new ArrayList<>();
        int count = 1 << k;
        for (int i = 0; i < count; i++) {
            for (int j = 0; j < count; j++) {
                int[] x = cut(xlo, xhi, i, count);
                int[] y = cut(ylo, yhi, j, count);
                all.add(new Span[] {Span.of(x[0], x[1]), isPlane() ? Span.of(y[0], y[1]) : Span.of(0, 0)});
            }
        }
        return all;
    }

    private int[] boxOf(int cell) {
        int across = (x1 - x0) / w;
        int up = (y1 - y0) / h;
        int c = cell % w;
        int r = cell / w;
        return new int[] {x0 + c * across, x0 + (c + 1) * across, y0 + r * up, y0 + (r + 1) * up};
    }

    private List<Span[]> imagesOf(int cell) {
        int[] box = boxOf(cell);
        List<Span[]> all = new ArrayList<>();
        for (Span[] part : parts(box[0], box[1], box[2], box[3], fineness)) {
            all.add(image(part[0], part[1]));
        }
        return all;
    }

    private TreeSet<Integer> targets(int cell) {
        TreeSet<Integer> to = new TreeSet<>();
        for (Span[] image : imagesOf(cell)) {
            for (int c = 0; c < cells(); c++) {
                int[] box = boxOf(c);
                if (image[0].low() <= box[1] && image[0].high() >= box[0]
                    && image[1].low() <= box[3] && image[1].high() >= box[2]) {
                    to.add(c);
                }
            }
        }
        return to;
    }

    private boolean leaving(int cell) {
        for (Span[] image : imagesOf(cell)) {
            if (image[0].low() < x0 || image[0].high() > x1 || image[1].low() < y0 || image[1].high() > y1) {
                return true;
            }
        }
        return false;
    }

    private List<TreeSet<Integer>> net() {
        List<TreeSet<Integer>> all = new ArrayList<>();
        for (int c = 0; c < cells(); c++) {
            all.add(targets(c));
        }
        return all;
    }

    private List<TreeSet<Integer>> ways() {
        List<TreeSet<Integer>> net = net();
        List<TreeSet<Integer>> all = new ArrayList<>();
        for (int c = 0; c < cells(); c++) {
            TreeSet<Integer> found = new TreeSet<>(net.get(c));
            List<Integer> open = new ArrayList<>(found);
            while (!open.isEmpty()) {
                for (int o : net.get(open.remove(open.size() - 1))) {
                    if (found.add(o)) {
                        open.add(o);
                    }
                }
            }
            all.add(found);
        }
        return all;
    }

    private List<TreeSet<Integer>> allHeaps() {
        List<TreeSet<Integer>> ways = ways();
        List<TreeSet<Integer>> all = new ArrayList<>();
        TreeSet<Integer> done = new TreeSet<>();
        for (int c = 0; c < cells(); c++) {
            if (!done.contains(c) && ways.get(c).contains(c)) {
                TreeSet<Integer> heap = new TreeSet<>();
                for (int o = 0; o < cells(); o++) {
                    if (ways.get(c).contains(o) && ways.get(o).contains(c)) {
                        heap.add(o);
                    }
                }
                done.addAll(heap);
                all.add(heap);
            }
        }
        return all;
    }

    private boolean surely(int cell, TreeSet<Integer> set) {
        return !leaving(cell) && set.containsAll(targets(cell));
    }

    private int pushInto(int cell, TreeSet<Integer> set) {
        int found = NONE;
        for (int i = pushes.size() - 1; i >= 0; i--) {
            u = Span.of(pushes.get(i), pushes.get(i));
            found = surely(cell, set) ? i : found;
        }
        u = Span.of(0, 0);
        return found;
    }

    private int facing(int xlo, int xhi, int ylo, int yhi) {
        Span x = Span.of(xlo, xhi);
        Span y = Span.of(ylo, yhi);
        Span[] image = image(x, y);
        Span east = image[0].minus(x);
        Span north = image[1].minus(y);
        return east.low() > 0 ? 0 : north.low() > 0 ? 1 : east.high() < 0 ? 2 : north.high() < 0 ? 3 : NONE;
    }

    private boolean isCovering(int i, int j) {
        int[] from = boxes.get(i);
        int[] to = boxes.get(j);
        undecided = 0;
        round(Span.of(from[0], from[1]), 1);
        if (undecided > 0) {
            return false;
        }
        Span least = round(Span.of(from[0], from[0]), 1);
        Span greatest = round(Span.of(from[1], from[1]), 1);
        return least.high() <= to[0] && greatest.low() >= to[1] || greatest.high() <= to[0] && least.low() >= to[1];
    }
}
