import java.util.Arrays;
import java.util.NoSuchElementException;

/**
 * A laboratory of maps gone round and round. Words in capitals are those of the document's Terms.
 */
public final class RoundMaps {
    public static final int NONE = -1;

    private static final int ONE = 1024;
    private static final int BIG = 2147483647;
    /** The greatest size of a number that a caller may name. */
    private static final int FAR = 1000000;

    private static final int MOST_MAPS = 4;
    private static final int FULL = -100;
    private static final int MOST_SIDE = 16;
    private static final int MOST_CELLS = 128;
    private static final int FINEST = 2;
    private static final int FINEST_BOX = 3;
    private static final int MOST_SETS = 4;
    private static final int MOST_PUSHES = 4;
    private static final int MOST_TOLD = 40;
    private static final int MOST_STEPS = 60;
    private static final int MOST_RING = 12;
    private static final int MOST_CHANGES = 12;
    private static final int MOST_BOXES = 6;
    private static final int LONGEST_COUNT = 20;
    private static final int LONGEST_WORD = 8;
    private static final int MOST_SIGHT = 9;
    private static final int MOST_SEEN = 12;
    private static final int MOST_DRIVE = 20;
    private static final int NEGATIVE_LENGTH = -2;
    private static final int MISSING = -3;

    /** The LETTERS, by their place here. */
    private static final String LETTERS = "xyanud";
    private static final int X = 0;
    private static final int Y = 1;
    private static final int A = 2;
    private static final int N = 3;
    private static final int U = 4;
    private static final int D = 5;

    /** What a MAP's code is made of: each entry is one of these and 16 times its argument. */
    private static final int NUMBER = 0;
    private static final int LETTER = 1;
    private static final int NEGATE = 2;
    private static final int ABSOLUTE = 3;
    private static final int TIMES = 4;
    private static final int OVER = 5;
    private static final int PLUS = 6;
    private static final int MINUS = 7;
    private static final int CHOOSE = 8;
    private static final int OTHERWISE = 9;
    private static final int MEET = 10;
    /** What can only wait while a text is read. */
    private static final int OPEN = 11;
    private static final int LESS = 12;

    private final Reader reader = new Reader();
    private final MapText[] maps = new MapText[MOST_MAPS];
    private int mapTotal = 0;
    private int used = NONE;
    private final Reckoner reckoner = new Reckoner();
    private final int[] driven = new int[MOST_DRIVE];
    private int drivenTotal = 0;
    private final Row told = new Row();
    private final Grid ground = new Grid();
    private int fineness = 0;
    private final Net[] nets = new Net[MOST_PUSHES];
    private final Ways ways = new Ways();
    private final Cells[] sets = new Cells[MOST_SETS];
    /** Answers grow here, so that a SET may be asked and told in one call. */
    private final Cells work = new Cells();
    private final Cells spare = new Cells();
    private final Boxes boxes = new Boxes();
    private final Steering steering = new Steering();
    private final int[] sights = new int[MOST_CELLS];
    private final int[] seen = new int[MOST_SEEN];
    private int seenTotal = 0;

    public RoundMaps() {
        for (int i = 0; i < nets.length; i++) {
            nets[i] = new Net();
        }
        for (int i = 0; i < sets.length; i++) {
            sets[i] = new Cells();
        }
    }

    // ---- maps

    public int sign(int v) {
        return reader.write(v);
    }

    public boolean end(int n) {
        return reader.shorten(n);
    }

    public int map() {
        if (mapTotal >= MOST_MAPS) {
            reader.shorten(0);
            return FULL;
        }
        int wrong = reader.firstWrong();
        reader.shorten(0);
        if (wrong != NONE) {
            return -1 - wrong;
        }
        maps[mapTotal] = reader.text();
        used = mapTotal;
        mapTotal++;
        forgetNets();
        return used;
    }

    public boolean use(int map) {
        if (map < 0 || map >= mapTotal) {
            return false;
        }
        used = map;
        forgetNets();
        return true;
    }

    public boolean letter(int what, int lo, int hi) {
        if (what < 0 || what > 2 || !isSpan(lo, hi)) {
            return false;
        }
        reckoner.tell(what == 0 ? A : what == 1 ? N : D, lo, hi);
        forgetNets();
        return true;
    }

    public int push(int v) {
        return isNumber(v) ? steering.addPush(v) : NONE;
    }

    public int drive(int kind, int n, int f, int step) {
        if (kind < 0 || kind > 3 || n > MOST_DRIVE) {
            return NONE;
        }
        if (kind == 3) {
            drivenTotal = 0;
            return MISSING;
        }
        if (n < 0) {
            return NEGATIVE_LENGTH;
        }
        for (int i = 0; i < n && i < driven.length; i++) {
            int entry = f + i * step;
            driven[i] = kind == 0 ? (byte) entry : kind == 1 ? (short) entry : entry;
        }
        drivenTotal = n;
        return n;
    }

    public int count(int what) {
        MapText map = theMap();
        switch (what) {
            case 0: return mapTotal;
            case 1: return map != null && map.plane ? 1 : 0;
            case 2: return ground.size();
            case 3: return steering.pushTotal;
            case 4: return boxes.total;
            case 5: return seenTotal;
            case 6: return told.total;
            case 7: return reader.length;
            case 8: return fineness;
            case 9: return used;
            default: return NONE;
        }
    }

    // ---- images

    public int shut(int xlo, int xhi, int ylo, int yhi) {
        MapText map = theMap();
        if (map == null || !isSpan(xlo, xhi) || !isSpan(ylo, yhi)) {
            return NONE;
        }
        int undecided = reckoner.image(map, xlo, xhi, ylo, yhi);
        tellImage(map);
        return undecided;
    }

    public int finer(int xlo, int xhi, int ylo, int yhi, int k) {
        MapText map = theMap();
        if (map == null || k < 0 || k > FINEST_BOX || !isSpan(xlo, xhi) || !isSpan(ylo, yhi)) {
            return NONE;
        }
        reckoner.hullOfParts(map, k, xlo, xhi, ylo, yhi);
        tellImage(map);
        return (int) bound(reckoner.xHigh - reckoner.xLow);
    }

    public int slope(int xlo, int xhi) {
        MapText map = theMap();
        if (map == null || map.plane || !isSpan(xlo, xhi)) {
            return NONE;
        }
        if (!reckoner.roundSlope(map, xlo, xhi, 1)) {
            return 1;
        }
        told.clear();
        told.add((int) reckoner.roundLow);
        told.add((int) reckoner.roundHigh);
        return 0;
    }

    public int orbit(int x, int y, int n) {
        MapText map = theMap();
        if (map == null || n < 0 || n > MOST_STEPS || !isNumber(x) || !isNumber(y)) {
            return NONE;
        }
        long low = reckoner.letterLow[D];
        long high = reckoner.letterHigh[D];
        int undecided = 0;
        reckoner.begin(x, x, y, y);
        for (int t = 0; t < n; t++) {
            if (t < drivenTotal && t < driven.length) {
                // an int can be one beyond BIG below 0
                long entry = bound(driven[t]);
                reckoner.tell(D, entry, entry);
            } else {
                reckoner.tell(D, low, high);
            }
            undecided += reckoner.image(map, reckoner.xLow, reckoner.xHigh, reckoner.yLow, reckoner.yHigh);
        }
        reckoner.tell(D, low, high);
        tellImage(map);
        return undecided;
    }

    // ---- the net

    public int grid(int x0, int x1, int w, int y0, int y1, int h) {
        MapText map = theMap();
        if (map == null || !isCut(x0, x1, w)) {
            return NONE;
        }
        boolean fits = map.plane ? isCut(y0, y1, h) && w * h <= MOST_CELLS : y0 == 0 && y1 == 0 && h == 1;
        if (!fits) {
            return NONE;
        }
        ground.plane = map.plane;
        ground.across.lay(x0, x1, w);
        ground.up.lay(y0, y1, h);
        for (int i = 0; i < sets.length; i++) {
            sets[i].clear();
        }
        boxes.total = 0;
        Arrays.fill(sights, 0);
        seenTotal = 0;
        steering.forget();
        forgetNets();
        return ground.size();
    }

    public int fine(int k) {
        if (k < 0 || k > FINEST) {
            return NONE;
        }
        int before = fineness;
        fineness = k;
        forgetNets();
        return before;
    }

    public int arrows() {
        return readyNet() ? nets[0].total(ground.size()) : NONE;
    }

    public int next(int cell) {
        if (!isCell(cell) || !readyNet()) {
            return NONE;
        }
        work.clear();
        nets[0].addTargets(cell, work);
        return told.list(work, ground.size(), MOST_CELLS);
    }

    public int back(int cell) {
        if (!isCell(cell) || !readyNet()) {
            return NONE;
        }
        spare.clear();
        spare.set(cell, true);
        work.clear();
        for (int c = 0; c < ground.size(); c++) {
            work.set(c, nets[0].goesInto(c, spare));
        }
        return told.list(work, ground.size(), MOST_CELLS);
    }

    public int leaves(int cell) {
        if (!isCell(cell) || !readyNet()) {
            return NONE;
        }
        return nets[0].leaving.holds(cell) ? 1 : 0;
    }

    public int cell(int x, int y) {
        return ground.cellAt(x, ground.plane ? y : 0);
    }

    // ---- sets

    public int put(int set, int cell, boolean is) {
        if (!isSet(set) || !isCell(cell)) {
            return NONE;
        }
        sets[set].set(cell, is);
        return sets[set].size();
    }

    public int join(int s, int t, int what) {
        if (!isSet(s) || !isSet(t) || what < 0 || what > 4) {
            return NONE;
        }
        Cells from = sets[s];
        work.copy(what == 0 ? from : sets[t]);
        if (what == 1) {
            work.retain(from);
        } else if (what == 2) {
            work.include(from);
        } else if (what == 3) {
            work.drop(from);
        } else if (what == 4) {
            work.fill(ground.size());
            work.drop(from);
        }
        return becomes(t);
    }

    public int many(int set) {
        return isSet(set) ? told.list(sets[set], ground.size(), MOST_TOLD) : NONE;
    }

    public int has(int set, int cell) {
        if (!isSet(set) || !isCell(cell)) {
            return NONE;
        }
        return sets[set].holds(cell) ? 1 : 0;
    }

    public int core(int s, int t) {
        if (!isSet(s) || !isSet(t) || !readyNet()) {
            return NONE;
        }
        work.copy(sets[s]);
        nets[0].shrinkToCore(work, spare, ground.size());
        return becomes(t);
    }

    public int reach(int s, int t, int what) {
        if (!isSet(s) || !isSet(t) || what < 0 || what > 3 || !readyNet()) {
            return NONE;
        }
        int size = ground.size();
        if (what == 2) {
            work.copy(sets[s]);
            nets[0].growSurely(work, size);
            return becomes(t);
        }
        ways.renew(nets[0], size);
        work.clear();
        if (what == 0) {
            ways.all.addTargetsOf(sets[s], work, size);
            return becomes(t);
        }
        for (int c = 0; c < size; c++) {
            boolean comes = ways.all.goesInto(c, sets[s]);
            work.set(c, what == 1 ? comes : !comes && !sets[s].holds(c));
        }
        return becomes(t);
    }

    public int trap(int set) {
        if (!isSet(set) || !readyNet()) {
            return NONE;
        }
        for (int c = 0; c < ground.size(); c++) {
            if (sets[set].holds(c) && !nets[0].surely(c, sets[set])) {
                return 0;
            }
        }
        return 1;
    }

    // ---- heaps

    public int heaps() {
        if (!readyNet()) {
            return NONE;
        }
        ways.renew(nets[0], ground.size());
        return ways.heapTotal;
    }

    public int heap(int cell) {
        if (!isCell(cell) || !readyNet()) {
            return NONE;
        }
        ways.renew(nets[0], ground.size());
        return ways.heapOf[cell];
    }

    public int order(int i, int j) {
        if (!readyNet()) {
            return NONE;
        }
        ways.renew(nets[0], ground.size());
        if (!ways.isHeap(i) || !ways.isHeap(j)) {
            return NONE;
        }
        return i == j || ways.all.links(ways.least[i], ways.least[j]) ? 1 : 0;
    }

    public int take(int i, int t) {
        if (!isSet(t) || !readyNet()) {
            return NONE;
        }
        ways.renew(nets[0], ground.size());
        if (!ways.isHeap(i)) {
            return NONE;
        }
        work.clear();
        for (int c = 0; c < ground.size() && c < MOST_CELLS; c++) {
            work.set(c, ways.heapOf[c] == i);
        }
        return becomes(t);
    }

    public int change(int k) {
        if (k < 1 || k > MOST_CHANGES || !hasNet()) {
            return NONE;
        }
        long low = reckoner.letterLow[A];
        long high = reckoner.letterHigh[A];
        int changes = 0;
        told.clear();
        for (int i = 0; i < k; i++) {
            reckoner.tell(A, cutAt(low, high, i, k), cutAt(low, high, i + 1, k));
            forgetNets();
            readyNet();
            int ahead = ways.heapTotal;
            ways.renew(nets[0], ground.size());
            told.add(ways.heapTotal);
            if (i > 0 && ways.heapTotal != ahead) {
                changes++;
            }
        }
        reckoner.tell(A, low, high);
        forgetNets();
        return changes;
    }

    // ---- rings

    public int ring(int cell, int n) {
        MapText map = theMap();
        if (map == null || !isRing(cell, n)) {
            return NONE;
        }
        long from = ground.across.lowOf(cell);
        long to = ground.across.highOf(cell);
        int undecided = reckoner.roundImage(map, from, to, n);
        if (reckoner.xHigh < from || reckoner.xLow > to) {
            return 0;
        }
        if (undecided > 0) {
            return 4;
        }
        if (!reckoner.lettersAreNumbers()) {
            return 5;
        }
        int atFrom = reckoner.sideOf(map, from, n);
        int atTo = reckoner.sideOf(map, to, n);
        boolean some = atFrom * atTo < 0;
        boolean noTwo = reckoner.roundSlope(map, from, to, n)
            && (reckoner.roundLow > ONE || reckoner.roundHigh < ONE);
        return some ? noTwo ? 2 : 1 : noTwo ? 3 : 5;
    }

    public int stable(int cell, int n) {
        MapText map = theMap();
        if (map == null || !isRing(cell, n)) {
            return NONE;
        }
        if (!reckoner.roundSlope(map, ground.across.lowOf(cell), ground.across.highOf(cell), n)) {
            return 2;
        }
        if (reckoner.roundLow > -ONE && reckoner.roundHigh < ONE) {
            return 1;
        }
        return reckoner.roundLow > ONE || reckoner.roundHigh < -ONE ? 0 : 2;
    }

    public int rings(int n) {
        if (n < 1 || n > MOST_STEPS || !readyNet()) {
            return NONE;
        }
        ways.returning(nets[0], n, ground.size(), work);
        return told.list(work, ground.size(), MOST_TOLD);
    }

    public int turning(int from, int to) {
        MapText map = theMap();
        if (map == null || !hasNet() || !map.plane || !isCell(from) || !isCell(to)) {
            return NONE;
        }
        if (!ground.isRectangle(from, to)) {
            return NONE;
        }
        int sides = ground.rimOf(from, to);
        int first = facing(map, from, to, 0);
        int now = first;
        int sum = 0;
        for (int i = 1; i <= sides && now != NONE; i++) {
            int ahead = now;
            now = i < sides ? facing(map, from, to, i) : first;
            int quarters = (now - ahead) & 3;
            if (now == NONE || quarters == 2) {
                return 0;
            }
            sum += quarters == 3 ? -1 : quarters;
        }
        if (now == NONE) {
            return 0;
        }
        told.clear();
        told.add(sum / 4);
        return 1;
    }

    // ---- words

    public int box(int from, int to) {
        if (!hasLineNet() || !isCell(from) || !isCell(to) || to < from) {
            return NONE;
        }
        return boxes.add(from, to);
    }

    public int covers(int i, int j) {
        MapText map = theMap();
        if (map == null || !hasLineNet() || !boxes.isBox(i) || !boxes.isBox(j)) {
            return NONE;
        }
        boxes.workOut(map, ground.across, reckoner);
        return boxes.covering(i, j) ? 1 : 0;
    }

    public long words(int n, int what) {
        MapText map = theMap();
        if (map == null || !hasLineNet() || n < 1 || n > LONGEST_COUNT || what < 0 || what > 1) {
            return NONE;
        }
        boxes.workOut(map, ground.across, reckoner);
        long sum = 0;
        for (int i = 0; i < boxes.total; i++) {
            sum += boxes.wordsFrom(i, n, what == 1);
        }
        return sum;
    }

    public int word(int w, int n) {
        MapText map = theMap();
        if (map == null || !hasLineNet() || n < 1 || n > LONGEST_WORD) {
            return NONE;
        }
        for (int i = 0; i < n; i++) {
            if (!boxes.isBox((w >>> (4 * i)) & 15)) {
                return NONE;
            }
        }
        boxes.workOut(map, ground.across, reckoner);
        for (int i = 1; i < n; i++) {
            if (!boxes.covering((w >>> (4 * i - 4)) & 15, (w >>> (4 * i)) & 15)) {
                return 0;
            }
        }
        return 1;
    }

    // ---- steering

    public int steer(int s, int t, int n) {
        if (!isSet(s) || !isSet(t) || n < 0 || n > MOST_STEPS || !hasNet()) {
            return NONE;
        }
        readyPushedNets();
        work.copy(sets[s]);
        steering.work(nets, work, n, ground.size());
        return becomes(t);
    }

    public int plan(int cell) {
        return isCell(cell) && steering.ready ? steering.planOf[cell] : NONE;
    }

    public int steps(int cell) {
        return isCell(cell) && steering.ready ? steering.stepsOf[cell] : NONE;
    }

    public int safe(int s, int t) {
        if (!isSet(s) || !isSet(t) || !hasNet()) {
            return NONE;
        }
        readyPushedNets();
        work.copy(sets[s]);
        steering.shrinkToSafe(nets, work, ground.size());
        return becomes(t);
    }

    // ---- sights

    public int sight(int cell, int v) {
        if (!isCell(cell) || v < 0 || v > MOST_SIGHT) {
            return NONE;
        }
        int before = sights[cell];
        sights[cell] = v;
        return before;
    }

    public int see(int v) {
        if (v < 0 || v > MOST_SIGHT || seenTotal >= seen.length) {
            return NONE;
        }
        seen[seenTotal] = v;
        seenTotal++;
        return seenTotal;
    }

    public int blind() {
        int before = seenTotal;
        seenTotal = 0;
        return before;
    }

    public int sense(int t) {
        if (!isSet(t) || !readyNet()) {
            return NONE;
        }
        work.fill(ground.size());
        for (int i = 0; i < seenTotal && i < seen.length; i++) {
            if (i > 0) {
                spare.copy(work);
                work.clear();
                nets[0].addTargetsOf(spare, work, ground.size());
            }
            dropUnlike(seen[i]);
        }
        return becomes(t);
    }

    public int homes(int set, int what) {
        if (!isSet(set) || what < 0 || what > 1) {
            return NONE;
        }
        if (what == 0) {
            work.copy(sets[set]);
            return ground.partsOf(work, true);
        }
        work.fill(ground.size());
        work.drop(sets[set]);
        return ground.partsOf(work, false);
    }

    public int row(int i) throws NoSuchElementException {
        if (!told.isTold(i)) {
            throw new NoSuchElementException();
        }
        return told.numbers[i];
    }

    // ---- what the calls share

    private static boolean isNumber(int v) {
        return v >= -FAR && v <= FAR;
    }

    private static boolean isSpan(int lo, int hi) {
        return lo <= hi && isNumber(lo) && isNumber(hi);
    }

    /** Whether a side of THE GRID may be cut into n. */
    private static boolean isCut(int from, int to, int n) {
        return n >= 1 && n <= MOST_SIDE && isSpan(from, to) && to > from && (to - from) % n == 0;
    }

    private static long bound(long end) {
        return end > BIG ? BIG : end < -BIG ? -BIG : end;
    }

    /** Where the i-th of n equal SPANS from low to high begins. */
    private static long cutAt(long low, long high, int i, int n) {
        return n < 1 ? low : low + i * (high - low) / n;
    }

    private boolean isSet(int set) {
        return set >= 0 && set < sets.length;
    }

    private boolean isCell(int cell) {
        return cell >= 0 && cell < ground.size() && cell < MOST_CELLS;
    }

    private boolean isRing(int cell, int n) {
        return hasLineNet() && isCell(cell) && n >= 1 && n <= MOST_RING;
    }

    private MapText theMap() {
        return used < 0 || used >= maps.length ? null : maps[used];
    }

    private boolean hasNet() {
        MapText map = theMap();
        return map != null && map.plane == ground.plane;
    }

    private boolean hasLineNet() {
        return hasNet() && !ground.plane;
    }

    private void forgetNets() {
        for (int i = 0; i < nets.length; i++) {
            nets[i].fresh = false;
        }
        ways.fresh = false;
    }

    /** Whether there is THE NET, which is worked out then. */
    private boolean readyNet() {
        MapText map = theMap();
        if (map == null || map.plane != ground.plane) {
            return false;
        }
        if (!nets[0].fresh) {
            // PUSH 0 is 0, so that u is it already
            nets[0].build(ground, fineness, map, reckoner);
        }
        return true;
    }

    private void readyPushedNets() {
        MapText map = theMap();
        if (map == null) {
            return;
        }
        for (int i = 0; i < steering.pushTotal && i < nets.length; i++) {
            if (!nets[i].fresh) {
                reckoner.tell(U, steering.pushes[i], steering.pushes[i]);
                nets[i].build(ground, fineness, map, reckoner);
            }
        }
        reckoner.tell(U, 0, 0);
    }

    /** SET t becomes what was worked out. */
    private int becomes(int t) {
        sets[t].copy(work);
        return work.size();
    }

    private void tellImage(MapText map) {
        told.clear();
        told.add((int) reckoner.xLow);
        told.add((int) reckoner.xHigh);
        if (map.plane) {
            told.add((int) reckoner.yLow);
            told.add((int) reckoner.yHigh);
        }
    }

    private void dropUnlike(int sight) {
        for (int c = 0; c < sights.length; c++) {
            if (sights[c] != sight) {
                work.set(c, false);
            }
        }
    }

    /** Where THE MAP leads the i-th side of a rectangle's rim: quarters from EAST to the left; NONE: open. */
    private int facing(MapText map, int from, int to, int i) {
        ground.goRound(from, to, i);
        reckoner.image(map, ground.sideLeft, ground.sideRight, ground.sideLow, ground.sideHigh);
        if (reckoner.xLow - ground.sideRight > 0) {
            return 0;
        }
        if (reckoner.yLow - ground.sideHigh > 0) {
            return 1;
        }
        if (reckoner.xHigh - ground.sideLeft < 0) {
            return 2;
        }
        return reckoner.yHigh - ground.sideLow < 0 ? 3 : NONE;
    }

    /** The ROW. */
    private static final class Row {
        private final int[] numbers = new int[MOST_CELLS];
        private int total = 0;

        private void clear() {
            total = 0;
        }

        private void add(int number) {
            if (total < numbers.length) {
                numbers[total] = number;
                total++;
            }
        }

        private boolean isTold(int i) {
            return i >= 0 && i < total && i < numbers.length;
        }

        /** Tells the first CELLS of a set: how many it has in all. */
        private int list(Cells cells, int size, int most) {
            clear();
            for (int c = 0; c < size && total < most; c++) {
                if (cells.holds(c)) {
                    add(c);
                }
            }
            return cells.size();
        }
    }

    /** A MAP: the code of its one or two FORMULAS, each of which leaves one value. */
    private static final class MapText {
        private final int[] code;
        private final boolean plane;

        private MapText(int[] code, boolean plane) {
            this.code = code;
            this.plane = plane;
        }
    }

    /**
     * THE TAPE, and how its text becomes code. It reads sign by sign with a pile of what waits in place of
     * recursion, so that no text goes deep.
     */
    private static final class Reader {
        private static final int TAPE = 100;
        private static final int LONGEST = 60;

        private final int[] signs = new int[TAPE];
        private int length = 0;
        private int limit = 0;
        private int place = 0;
        private boolean wantsThing = true;
        private boolean plane = false;
        private final int[] code = new int[LONGEST];
        private int codeTotal = 0;
        private final int[] waiting = new int[LONGEST];
        private int waitingTotal = 0;

        private int write(int v) {
            if (length + 4 > signs.length) {
                return NONE;
            }
            for (int i = 0; i < 4 && length < signs.length; i++) {
                signs[length] = (v >>> (24 - 8 * i)) & 255;
                length++;
            }
            return length;
        }

        private boolean shorten(int n) {
            if (n < 0 || n > length) {
                return false;
            }
            length = n;
            return true;
        }

        private MapText text() {
            return new MapText(Arrays.copyOf(code, codeTotal), plane);
        }

        /** The place of the first sign that can't stand there; NONE, if the text is a MAP. */
        private int firstWrong() {
            limit = Math.min(length, LONGEST);
            place = 0;
            wantsThing = true;
            plane = false;
            codeTotal = 0;
            waitingTotal = 0;
            for (int i = 0; i < LONGEST && place < limit; i++) {
                boolean right = wantsThing ? beginThing(signs[place]) : goOn(signs[place]);
                if (!right) {
                    return place;
                }
            }
            if (length > LONGEST || wantsThing) {
                return limit;
            }
            endFormula();
            return waitingTotal > 0 ? limit : NONE;
        }

        private boolean beginThing(int sign) {
            int mark = sign == '-' ? NEGATE : sign == 'A' ? ABSOLUTE : sign == '(' ? OPEN : NONE;
            if (mark != NONE) {
                await(mark, 0);
                place++;
                return true;
            }
            if (isDigit(sign)) {
                emit(NUMBER, digits(4));
                endThing();
                return true;
            }
            int letter = LETTERS.indexOf((char) sign);
            if (letter < 0) {
                return false;
            }
            place++;
            emit(LETTER, letter);
            endThing();
            return true;
        }

        /** Takes a sign behind a whole THING, or stays at the place of what can't stand there. */
        private boolean goOn(int sign) {
            if (sign == '/') {
                place++;
                return readDivisor();
            }
            boolean right = takeMark(sign);
            if (right) {
                place++;
            }
            return right;
        }

        private boolean readDivisor() {
            if (place >= limit || !isDigit(signs[place]) || signs[place] == '0') {
                return false;
            }
            emit(OVER, digits(3));
            return true;
        }

        private boolean takeMark(int sign) {
            switch (sign) {
                case '*':
                    await(TIMES, 0);
                    wantsThing = true;
                    return true;
                case '+':
                case '-':
                    endSum();
                    await(sign == '+' ? PLUS : MINUS, 0);
                    wantsThing = true;
                    return true;
                case '<': return beginTest();
                case '?': return beginChosen();
                case ':': return beginOther();
                case ')': return closeBracket();
                case ';': return beginSecond();
                default: return false;
            }
        }

        private boolean beginTest() {
            endSum();
            if (lastWaiting() == LESS) {
                return false;
            }
            await(LESS, 0);
            wantsThing = true;
            return true;
        }

        private boolean beginChosen() {
            endSum();
            if (lastWaiting() != LESS) {
                return false;
            }
            takeWaiting();
            await(CHOOSE, codeTotal);
            emit(CHOOSE, 0);
            wantsThing = true;
            return true;
        }

        private boolean beginOther() {
            endFormula();
            if (lastWaiting() != CHOOSE) {
                return false;
            }
            int test = takeWaiting();
            await(OTHERWISE, codeTotal);
            emit(OTHERWISE, 0);
            pointToHere(test);
            wantsThing = true;
            return true;
        }

        private boolean closeBracket() {
            endFormula();
            if (lastWaiting() != OPEN) {
                return false;
            }
            takeWaiting();
            endThing();
            return true;
        }

        private boolean beginSecond() {
            endFormula();
            if (plane || waitingTotal > 0) {
                return false;
            }
            plane = true;
            wantsThing = true;
            return true;
        }

        private void endThing() {
            for (int i = 0; i < LONGEST && (lastWaiting() == NEGATE || lastWaiting() == ABSOLUTE); i++) {
                emit(lastWaiting(), 0);
                takeWaiting();
            }
            if (lastWaiting() == TIMES) {
                takeWaiting();
                emit(TIMES, 0);
            }
            wantsThing = false;
        }

        private void endSum() {
            int mark = lastWaiting();
            if (mark == PLUS || mark == MINUS) {
                takeWaiting();
                emit(mark, 0);
            }
        }

        private void endFormula() {
            endSum();
            for (int i = 0; i < LONGEST && lastWaiting() == OTHERWISE; i++) {
                int turn = takeWaiting();
                emit(MEET, 0);
                pointToHere(turn);
            }
        }

        private static boolean isDigit(int sign) {
            return sign >= '0' && sign <= '9';
        }

        private int digits(int most) {
            int value = 0;
            for (int i = 0; i < most && place < limit && isDigit(signs[place]); i++) {
                value = value * 10 + signs[place] - '0';
                place++;
            }
            return value;
        }

        private void emit(int what, int with) {
            if (codeTotal < code.length) {
                code[codeTotal] = what + 16 * with;
                codeTotal++;
            }
        }

        private void pointToHere(int at) {
            if (at >= 0 && at < codeTotal && at < code.length) {
                code[at] = (code[at] & 15) + 16 * codeTotal;
            }
        }

        private void await(int mark, int at) {
            if (waitingTotal < waiting.length) {
                waiting[waitingTotal] = mark + 16 * at;
                waitingTotal++;
            }
        }

        private int lastWaiting() {
            return waitingTotal > 0 ? waiting[waitingTotal - 1] & 15 : NONE;
        }

        /** Takes what waits last: the place in the code that it bears. */
        private int takeWaiting() {
            if (waitingTotal < 1) {
                return NONE;
            }
            waitingTotal--;
            return waiting[waitingTotal] >> 4;
        }
    }

    /** Works out values and SLOPES of MAPS, on piles of SPANS that are used again and again. */
    private static final class Reckoner {
        private static final int DEEPEST = 61;
        private static final int FIRST = 1;
        private static final int SECOND = 2;
        private static final int BOTH = 3;

        private final long[] letterLow = new long[6];
        private final long[] letterHigh = new long[6];
        private final long[] low = new long[DEEPEST];
        private final long[] high = new long[DEEPEST];
        private int top = 0;
        private boolean sloping = false;
        private final long[] slopeLow = new long[DEEPEST];
        private final long[] slopeHigh = new long[DEEPEST];
        private final boolean[] slopeless = new boolean[DEEPEST];
        private final int[] chosen = new int[DEEPEST];
        private int tests = 0;
        private int undecided = 0;
        private long xLow = 0;
        private long xHigh = 0;
        private long yLow = 0;
        private long yHigh = 0;
        private long roundLow = 0;
        private long roundHigh = 0;

        private void tell(int letter, long from, long to) {
            if (letter >= 0 && letter < letterLow.length) {
                letterLow[letter] = from;
                letterHigh[letter] = to;
            }
        }

        private boolean lettersAreNumbers() {
            return letterLow[A] == letterHigh[A] && letterLow[N] == letterHigh[N] && letterLow[D] == letterHigh[D];
        }

        private void begin(long left, long right, long bottom, long ceiling) {
            xLow = left;
            xHigh = right;
            yLow = bottom;
            yHigh = ceiling;
        }

        /** The IMAGE of a box: how many tests were UNDECIDED. */
        private int image(MapText map, long left, long right, long bottom, long ceiling) {
            int[] code = map.code;
            tell(X, left, right);
            tell(Y, map.plane ? bottom : 0, map.plane ? ceiling : 0);
            top = 0;
            tests = 0;
            undecided = 0;
            int at = 0;
            for (int i = 0; i < code.length && at >= 0 && at < code.length; i++) {
                int with = code[at] >> 4;
                int what = code[at] & 15;
                at++;
                switch (what) {
                    case NUMBER: load(with * ONE, with * ONE, 0); break;
                    case LETTER: loadLetter(with); break;
                    case NEGATE: negate(); break;
                    case ABSOLUTE: makeAbsolute(); break;
                    case TIMES: multiplySlopes(); multiply(); break;
                    case OVER: divide(with); break;
                    case PLUS: add(); break;
                    case MINUS: negate(); add(); break;
                    case CHOOSE: at = choose(at, with); break;
                    case OTHERWISE: at = turn(at, with); break;
                    case MEET: meet(); break;
                    default: break;
                }
            }
            begin(low[0], high[0], map.plane ? low[1] : 0, map.plane ? high[1] : 0);
            return undecided;
        }

        private void hullOfParts(MapText map, int k, long left, long right, long bottom, long ceiling) {
            int parts = 1 << k;
            int rows = map.plane ? parts : 1;
            long westmost = BIG;
            long eastmost = -BIG;
            long southmost = BIG;
            long northmost = -BIG;
            for (int j = 0; j < rows; j++) {
                for (int i = 0; i < parts; i++) {
                    image(map, cutAt(left, right, i, parts), cutAt(left, right, i + 1, parts),
                        cutAt(bottom, ceiling, j, rows), cutAt(bottom, ceiling, j + 1, rows));
                    westmost = Math.min(westmost, xLow);
                    eastmost = Math.max(eastmost, xHigh);
                    southmost = Math.min(southmost, yLow);
                    northmost = Math.max(northmost, yHigh);
                }
            }
            begin(westmost, eastmost, southmost, northmost);
        }

        /** The n-th IMAGE of a SPAN: how many tests were UNDECIDED on the way. */
        private int roundImage(MapText map, long from, long to, int n) {
            int sum = 0;
            begin(from, to, 0, 0);
            for (int i = 0; i < n; i++) {
                sum += image(map, xLow, xHigh, 0, 0);
            }
            return sum;
        }

        /** Whether the n-th IMAGE of a point is surely above it (1) or below (-1). */
        private int sideOf(MapText map, long point, int n) {
            roundImage(map, point, point, n);
            return xLow > point ? 1 : xHigh < point ? -1 : 0;
        }

        /** Whether the n-th IMAGE of a SPAN has a SLOPE, which is worked out then. */
        private boolean roundSlope(MapText map, long from, long to, int n) {
            boolean has = true;
            long least = ONE;
            long most = ONE;
            begin(from, to, 0, 0);
            sloping = true;
            for (int i = 0; i < n && has; i++) {
                image(map, xLow, xHigh, 0, 0);
                has = !slopeless[0];
                long before = least;
                least = productLow(least, most, slopeLow[0], slopeHigh[0]);
                most = productHigh(before, most, slopeLow[0], slopeHigh[0]);
            }
            sloping = false;
            roundLow = least;
            roundHigh = most;
            return has;
        }

        private void load(long from, long to, long slope) {
            if (top >= DEEPEST) {
                return;
            }
            low[top] = from;
            high[top] = to;
            if (sloping) {
                slopeLow[top] = slope;
                slopeHigh[top] = slope;
                slopeless[top] = false;
            }
            top++;
        }

        private void loadLetter(int letter) {
            if (letter >= 0 && letter < letterLow.length) {
                load(letterLow[letter], letterHigh[letter], letter == X ? ONE : 0);
            }
        }

        private void negate() {
            if (top < 1) {
                return;
            }
            int i = top - 1;
            long before = low[i];
            low[i] = -high[i];
            high[i] = -before;
            if (sloping) {
                long slopeBefore = slopeLow[i];
                slopeLow[i] = -slopeHigh[i];
                slopeHigh[i] = -slopeBefore;
            }
        }

        private void makeAbsolute() {
            if (top < 1 || low[top - 1] >= 0) {
                return;
            }
            int i = top - 1;
            if (high[i] <= 0) {
                negate();
                return;
            }
            high[i] = Math.max(-low[i], high[i]);
            low[i] = 0;
            if (sloping) {
                slopeHigh[i] = Math.max(-slopeLow[i], slopeHigh[i]);
                slopeLow[i] = -slopeHigh[i];
            }
        }

        private void add() {
            if (top < 2) {
                return;
            }
            top--;
            int i = top - 1;
            low[i] = bound(low[i] + low[top]);
            high[i] = bound(high[i] + high[top]);
            if (sloping) {
                slopeLow[i] = bound(slopeLow[i] + slopeLow[top]);
                slopeHigh[i] = bound(slopeHigh[i] + slopeHigh[top]);
                slopeless[i] = slopeless[i] || slopeless[top];
            }
        }

        private void multiply() {
            if (top < 2) {
                return;
            }
            top--;
            int i = top - 1;
            long before = low[i];
            low[i] = productLow(low[i], high[i], low[top], high[top]);
            high[i] = productHigh(before, high[i], low[top], high[top]);
        }

        /** Stands ahead of multiply(), since it needs both values. */
        private void multiplySlopes() {
            if (!sloping || top < 2) {
                return;
            }
            int i = top - 2;
            int j = top - 1;
            long least = productLow(slopeLow[i], slopeHigh[i], low[j], high[j]);
            long most = productHigh(slopeLow[i], slopeHigh[i], low[j], high[j]);
            long otherLeast = productLow(low[i], high[i], slopeLow[j], slopeHigh[j]);
            long otherMost = productHigh(low[i], high[i], slopeLow[j], slopeHigh[j]);
            slopeLow[i] = bound(least + otherLeast);
            slopeHigh[i] = bound(most + otherMost);
            slopeless[i] = slopeless[i] || slopeless[j];
        }

        private void divide(int by) {
            if (top < 1 || by < 1) {
                return;
            }
            int i = top - 1;
            low[i] = Math.floorDiv(low[i], (long) by);
            high[i] = -Math.floorDiv(-high[i], (long) by);
            if (sloping) {
                slopeLow[i] = Math.floorDiv(slopeLow[i], (long) by);
                slopeHigh[i] = -Math.floorDiv(-slopeHigh[i], (long) by);
            }
        }

        private static long productLow(long a, long b, long c, long d) {
            long least = Math.min(Math.min(a * c, a * d), Math.min(b * c, b * d));
            return bound(Math.floorDiv(least, (long) ONE));
        }

        private static long productHigh(long a, long b, long c, long d) {
            long most = Math.max(Math.max(a * c, a * d), Math.max(b * c, b * d));
            return bound(-Math.floorDiv(-most, (long) ONE));
        }

        /** Looks at a test, whose sides are the last two values: where the code goes on. */
        private int choose(int at, int second) {
            if (top < 2 || tests >= DEEPEST) {
                return at;
            }
            top -= 2;
            int choice = high[top] < low[top + 1] ? FIRST : low[top] >= high[top + 1] ? SECOND : BOTH;
            if (choice == BOTH) {
                undecided++;
            }
            chosen[tests] = choice;
            tests++;
            return choice == SECOND ? second : at;
        }

        /** At the end of a test's first FORMULA: where the code goes on. */
        private int turn(int at, int behind) {
            if (tests < 1 || chosen[tests - 1] != FIRST) {
                return at;
            }
            tests--;
            return behind;
        }

        /** At the end of a test's second FORMULA. */
        private void meet() {
            if (tests < 1) {
                return;
            }
            tests--;
            if (chosen[tests] == BOTH && top > 1) {
                top--;
                low[top - 1] = Math.min(low[top - 1], low[top]);
                high[top - 1] = Math.max(high[top - 1], high[top]);
                slopeless[top - 1] = true;
            }
        }
    }

    /** One side of THE GRID: n equal SPANS, one behind the other. */
    private static final class Axis {
        private long from = 0;
        private long width = 0;
        private int n = 1;

        private void lay(int begin, int finish, int parts) {
            from = begin;
            n = parts;
            width = parts < 1 ? 0 : (finish - begin) / parts;
        }

        private long lowOf(int i) {
            return from + i * width;
        }

        private long highOf(int i) {
            return from + (i + 1) * width;
        }

        private boolean spans(long low, long high) {
            return low >= from && high <= from + n * width;
        }

        /** The first SPAN that does not end ahead of a place; n and more: all do. */
        private long firstTo(long place) {
            return place <= from || width < 1 ? 0 : (place - from - 1) / width;
        }

        /** The last SPAN that does not begin behind a place; below 0: all do. */
        private long lastTo(long place) {
            if (place < from) {
                return NONE;
            }
            return width < 1 ? n - 1 : Math.min(n - 1, (place - from) / width);
        }
    }

    /** THE GRID. */
    private static final class Grid {
        private boolean plane = false;
        private final Axis across = new Axis();
        private final Axis up = new Axis();
        private final int[] flood = new int[MOST_CELLS];
        private int floodTotal = 0;
        private long sideLeft = 0;
        private long sideRight = 0;
        private long sideLow = 0;
        private long sideHigh = 0;

        private Grid() {
            across.lay(0, ONE, 1);
        }

        private int size() {
            return across.n * up.n;
        }

        private int columnOf(int cell) {
            return across.n < 1 ? 0 : cell % across.n;
        }

        private int lineOf(int cell) {
            return across.n < 1 ? 0 : cell / across.n;
        }

        private int cellAt(int x, int y) {
            if (!across.spans(x, x) || !up.spans(y, y)) {
                return NONE;
            }
            return (int) (up.firstTo(y) * across.n + across.firstTo(x));
        }

        private boolean isRectangle(int from, int to) {
            return columnOf(from) <= columnOf(to) && lineOf(from) <= lineOf(to);
        }

        /** How many sides of CELLS a rectangle's rim has. */
        private int rimOf(int from, int to) {
            return 2 * (columnOf(to) - columnOf(from) + lineOf(to) - lineOf(from) + 2);
        }

        /** Finds the i-th side of a rectangle's rim. */
        private void goRound(int from, int to, int i) {
            int left = columnOf(from);
            int right = columnOf(to);
            int bottom = lineOf(from);
            int ceiling = lineOf(to);
            int columns = right - left + 1;
            int lines = ceiling - bottom + 1;
            if (i < columns) {
                layFlat(left + i, up.lowOf(bottom));
            } else if (i < columns + lines) {
                layUpright(bottom + i - columns, across.highOf(right));
            } else if (i < 2 * columns + lines) {
                layFlat(right - (i - columns - lines), up.highOf(ceiling));
            } else {
                layUpright(ceiling - (i - 2 * columns - lines), across.lowOf(left));
            }
        }

        private void layFlat(int column, long y) {
            sideLeft = across.lowOf(column);
            sideRight = across.highOf(column);
            sideLow = y;
            sideHigh = y;
        }

        private void layUpright(int line, long x) {
            sideLeft = x;
            sideRight = x;
            sideLow = up.lowOf(line);
            sideHigh = up.highOf(line);
        }

        /**
         * How many parts CELLS have: by corners too all of them, by sides alone those off THE GRID's rim.
         * It uses the CELLS up.
         */
        private int partsOf(Cells area, boolean corners) {
            int parts = 0;
            for (int c = 0; c < size(); c++) {
                if (area.holds(c)) {
                    boolean atRim = floodFrom(c, area, corners);
                    parts += corners || !atRim ? 1 : 0;
                }
            }
            return parts;
        }

        /** Takes a part out of an area: whether it has a side on THE GRID's rim. */
        private boolean floodFrom(int start, Cells area, boolean corners) {
            boolean atRim = false;
            floodTotal = 0;
            floodTo(start, area);
            for (int i = 0; i < floodTotal && i < flood.length; i++) {
                int column = columnOf(flood[i]);
                int line = lineOf(flood[i]);
                atRim = atRim || column == 0 || line == 0 || column == across.n - 1 || line == up.n - 1;
                for (int j = Math.max(0, line - 1); j <= line + 1 && j < up.n; j++) {
                    for (int k = Math.max(0, column - 1); k <= column + 1 && k < across.n; k++) {
                        if (corners || j == line || k == column) {
                            floodTo(j * across.n + k, area);
                        }
                    }
                }
            }
            return atRim;
        }

        private void floodTo(int cell, Cells area) {
            if (area.holds(cell) && floodTotal < flood.length) {
                area.set(cell, false);
                flood[floodTotal] = cell;
                floodTotal++;
            }
        }
    }

    /** A set of CELLS, one bit each. */
    private static final class Cells {
        private long low = 0;
        private long high = 0;

        private boolean holds(int cell) {
            return cell >= 0 && cell < MOST_CELLS && (((cell < 64 ? low : high) >>> (cell & 63)) & 1L) != 0;
        }

        private void set(int cell, boolean is) {
            if (cell < 0 || cell >= MOST_CELLS) {
                return;
            }
            long bit = 1L << (cell & 63);
            if (cell < 64) {
                low = is ? low | bit : low & ~bit;
            } else {
                high = is ? high | bit : high & ~bit;
            }
        }

        private int size() {
            return Long.bitCount(low) + Long.bitCount(high);
        }

        private void clear() {
            low = 0;
            high = 0;
        }

        private void fill(int size) {
            clear();
            for (int c = 0; c < size; c++) {
                set(c, true);
            }
        }

        private void copy(Cells other) {
            low = other.low;
            high = other.high;
        }

        private void retain(Cells other) {
            low &= other.low;
            high &= other.high;
        }

        private void include(Cells other) {
            low |= other.low;
            high |= other.high;
        }

        private void drop(Cells other) {
            low &= ~other.low;
            high &= ~other.high;
        }
    }

    /** ARROWS from CELLS to CELLS, one bit each, and which CELLS LEAVE; WAYS are kept likewise. */
    private static final class Net {
        private final long[] low = new long[MOST_CELLS];
        private final long[] high = new long[MOST_CELLS];
        private final Cells leaving = new Cells();
        private boolean fresh = false;

        private void build(Grid grid, int fineness, MapText map, Reckoner reckoner) {
            clear();
            leaving.clear();
            for (int c = 0; c < grid.size(); c++) {
                lead(c, grid, fineness, map, reckoner);
            }
            fresh = true;
        }

        private void clear() {
            Arrays.fill(low, 0L);
            Arrays.fill(high, 0L);
        }

        private void lead(int cell, Grid grid, int fineness, MapText map, Reckoner reckoner) {
            long left = grid.across.lowOf(grid.columnOf(cell));
            long right = left + grid.across.width;
            long bottom = grid.up.lowOf(grid.lineOf(cell));
            long ceiling = bottom + grid.up.width;
            int parts = 1 << fineness;
            int rows = grid.plane ? parts : 1;
            for (int j = 0; j < rows; j++) {
                for (int i = 0; i < parts; i++) {
                    reckoner.image(map, cutAt(left, right, i, parts), cutAt(left, right, i + 1, parts),
                        cutAt(bottom, ceiling, j, rows), cutAt(bottom, ceiling, j + 1, rows));
                    mark(cell, grid, reckoner);
                }
            }
        }

        private void mark(int cell, Grid grid, Reckoner image) {
            if (!grid.across.spans(image.xLow, image.xHigh) || !grid.up.spans(image.yLow, image.yHigh)) {
                leaving.set(cell, true);
            }
            long right = grid.across.lastTo(image.xHigh);
            long ceiling = grid.up.lastTo(image.yHigh);
            for (long j = grid.up.firstTo(image.yLow); j <= ceiling; j++) {
                for (long i = grid.across.firstTo(image.xLow); i <= right; i++) {
                    link(cell, (int) (j * grid.across.n + i));
                }
            }
        }

        private static boolean isPlace(int cell) {
            return cell >= 0 && cell < MOST_CELLS;
        }

        private void link(int from, int to) {
            if (isPlace(from) && isPlace(to)) {
                if (to < 64) {
                    low[from] |= 1L << to;
                } else {
                    high[from] |= 1L << (to & 63);
                }
            }
        }

        private boolean links(int from, int to) {
            return isPlace(from) && isPlace(to) && (((to < 64 ? low : high)[from] >>> (to & 63)) & 1L) != 0;
        }

        private int total(int size) {
            int sum = 0;
            for (int c = 0; c < size && c < MOST_CELLS; c++) {
                sum += Long.bitCount(low[c]) + Long.bitCount(high[c]);
            }
            return sum;
        }

        private boolean goesInto(int from, Cells set) {
            return isPlace(from) && ((low[from] & set.low) | (high[from] & set.high)) != 0;
        }

        private boolean surely(int from, Cells set) {
            return isPlace(from) && !leaving.holds(from)
                && ((low[from] & ~set.low) | (high[from] & ~set.high)) == 0;
        }

        private void addTargets(int from, Cells into) {
            if (isPlace(from)) {
                into.low |= low[from];
                into.high |= high[from];
            }
        }

        private void addTargetsOf(Cells from, Cells into, int size) {
            for (int c = 0; c < size; c++) {
                if (from.holds(c)) {
                    addTargets(c, into);
                }
            }
        }

        private void shrinkToCore(Cells part, Cells targets, int size) {
            int before = size + 1;
            for (int round = 0; round <= size && part.size() < before; round++) {
                before = part.size();
                targets.clear();
                addTargetsOf(part, targets, size);
                part.retain(targets);
                for (int c = 0; c < size; c++) {
                    if (part.holds(c) && !goesInto(c, part)) {
                        part.set(c, false);
                    }
                }
            }
        }

        private void growSurely(Cells set, int size) {
            int before = NONE;
            for (int round = 0; round <= size && set.size() > before; round++) {
                before = set.size();
                for (int c = 0; c < size; c++) {
                    if (surely(c, set)) {
                        set.set(c, true);
                    }
                }
            }
        }

        private void copy(Net other) {
            System.arraycopy(other.low, 0, low, 0, MOST_CELLS);
            System.arraycopy(other.high, 0, high, 0, MOST_CELLS);
        }

        /** Becomes the WAYS of one step by a, then one by b. */
        private void follow(Net a, Net b, int size) {
            clear();
            for (int i = 0; i < size && i < MOST_CELLS; i++) {
                for (int j = 0; j < size && j < MOST_CELLS; j++) {
                    if (a.links(i, j)) {
                        low[i] |= b.low[j];
                        high[i] |= b.high[j];
                    }
                }
            }
        }

        /** Becomes the WAYS of any number of steps. */
        private void close(int size) {
            for (int k = 0; k < size && k < MOST_CELLS; k++) {
                for (int i = 0; i < size && i < MOST_CELLS; i++) {
                    if (links(i, k)) {
                        low[i] |= low[k];
                        high[i] |= high[k];
                    }
                }
            }
        }
    }

    /** WAYS of THE NET, and its HEAPS. */
    private static final class Ways {
        private final Net all = new Net();
        private final int[] heapOf = new int[MOST_CELLS];
        private final int[] least = new int[MOST_CELLS];
        private int heapTotal = 0;
        private boolean fresh = false;
        private Net power = new Net();
        private Net square = new Net();
        private Net room = new Net();

        private void renew(Net net, int size) {
            if (fresh) {
                return;
            }
            all.copy(net);
            all.close(size);
            heapTotal = 0;
            Arrays.fill(heapOf, NONE);
            for (int c = 0; c < size && c < MOST_CELLS; c++) {
                if (heapOf[c] == NONE && all.links(c, c)) {
                    gather(c, size);
                }
            }
            fresh = true;
        }

        private void gather(int first, int size) {
            if (heapTotal >= least.length) {
                return;
            }
            least[heapTotal] = first;
            for (int c = first; c >= 0 && c < size && c < MOST_CELLS; c++) {
                if (all.links(first, c) && all.links(c, first)) {
                    heapOf[c] = heapTotal;
                }
            }
            heapTotal++;
        }

        private boolean isHeap(int i) {
            return i >= 0 && i < heapTotal && i < least.length;
        }

        /** Finds the CELLS with a WAY of just n ARROWS to themselves, by squares of squares. */
        private void returning(Net net, int n, int size, Cells into) {
            boolean begun = false;
            square.copy(net);
            for (int rest = n; rest > 0; rest >>= 1) {
                if ((rest & 1) != 0) {
                    if (begun) {
                        room.follow(power, square, size);
                        Net last = power;
                        power = room;
                        room = last;
                    } else {
                        power.copy(square);
                        begun = true;
                    }
                }
                if (rest > 1) {
                    room.follow(square, square, size);
                    Net last = square;
                    square = room;
                    room = last;
                }
            }
            into.clear();
            for (int c = 0; c < size; c++) {
                into.set(c, power.links(c, c));
            }
        }
    }

    /** BOXES, and which of them COVER which. */
    private static final class Boxes {
        private final int[] from = new int[MOST_BOXES];
        private final int[] to = new int[MOST_BOXES];
        private int total = 0;
        private final boolean[] cover = new boolean[MOST_BOXES * MOST_BOXES];
        private long[] ends = new long[MOST_BOXES];
        private long[] further = new long[MOST_BOXES];

        private boolean isBox(int i) {
            return i >= 0 && i < total && i < MOST_BOXES;
        }

        private int add(int first, int last) {
            if (total >= MOST_BOXES) {
                return NONE;
            }
            from[total] = first;
            to[total] = last;
            total++;
            return total - 1;
        }

        private boolean covering(int i, int j) {
            return isBox(i) && isBox(j) && cover[i * MOST_BOXES + j];
        }

        private void workOut(MapText map, Axis axis, Reckoner reckoner) {
            for (int i = 0; i < total && i < MOST_BOXES; i++) {
                long least = axis.lowOf(from[i]);
                long most = axis.highOf(to[i]);
                boolean decided = reckoner.image(map, least, most, 0, 0) == 0;
                reckoner.image(map, least, least, 0, 0);
                long leastLow = reckoner.xLow;
                long leastHigh = reckoner.xHigh;
                reckoner.image(map, most, most, 0, 0);
                for (int j = 0; j < total && j < MOST_BOXES; j++) {
                    long begin = axis.lowOf(from[j]);
                    long finish = axis.highOf(to[j]);
                    boolean rising = leastHigh <= begin && reckoner.xLow >= finish;
                    boolean falling = reckoner.xHigh <= begin && leastLow >= finish;
                    cover[i * MOST_BOXES + j] = decided && (rising || falling);
                }
            }
        }

        /** How many WORDS of n begin with a BOX, and come round to it if asked. */
        private long wordsFrom(int first, int n, boolean round) {
            for (int i = 0; i < MOST_BOXES; i++) {
                ends[i] = i == first ? 1 : 0;
            }
            for (int step = 1; step < n; step++) {
                for (int j = 0; j < MOST_BOXES; j++) {
                    further[j] = 0;
                    for (int i = 0; i < MOST_BOXES; i++) {
                        further[j] += covering(i, j) ? ends[i] : 0;
                    }
                }
                long[] last = ends;
                ends = further;
                further = last;
            }
            long sum = 0;
            for (int i = 0; i < MOST_BOXES; i++) {
                sum += !round || covering(i, first) ? ends[i] : 0;
            }
            return sum;
        }
    }

    /** PUSHES, and what the latest steer() found. */
    private static final class Steering {
        private final int[] pushes = new int[MOST_PUSHES];
        private int pushTotal = 1;
        private boolean ready = false;
        private final int[] stepsOf = new int[MOST_CELLS];
        private final int[] planOf = new int[MOST_CELLS];
        private final Cells reached = new Cells();

        private int addPush(int v) {
            if (pushTotal >= pushes.length) {
                return NONE;
            }
            pushes[pushTotal] = v;
            pushTotal++;
            return pushTotal;
        }

        private void forget() {
            ready = false;
        }

        /** The least PUSH with which a CELL SURELY goes into a set. */
        private int leastPush(Net[] nets, int cell, Cells set) {
            for (int i = 0; i < pushTotal && i < nets.length; i++) {
                if (nets[i].surely(cell, set)) {
                    return i;
                }
            }
            return NONE;
        }

        /** Grows a goal by the CELLS that are steered to it in at most n steps. */
        private void work(Net[] nets, Cells goal, int n, int size) {
            for (int c = 0; c < stepsOf.length; c++) {
                stepsOf[c] = goal.holds(c) ? 0 : NONE;
                planOf[c] = NONE;
            }
            ready = true;
            int before = NONE;
            for (int step = 1; step <= n && goal.size() > before; step++) {
                before = goal.size();
                reached.copy(goal);
                for (int c = 0; c < size && c < MOST_CELLS; c++) {
                    int push = reached.holds(c) ? NONE : leastPush(nets, c, reached);
                    if (push != NONE) {
                        stepsOf[c] = step;
                        planOf[c] = push;
                        goal.set(c, true);
                    }
                }
            }
        }

        private void shrinkToSafe(Net[] nets, Cells part, int size) {
            int before = size + 1;
            for (int round = 0; round <= size && part.size() < before; round++) {
                before = part.size();
                for (int c = 0; c < size; c++) {
                    if (part.holds(c) && leastPush(nets, c, part) == NONE) {
                        part.set(c, false);
                    }
                }
            }
        }
    }
}
