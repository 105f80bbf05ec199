import java.util.Arrays;

/**
 * Floors of two kinds of half tiles whose sides are in the golden ratio.
 *
 * All legs AB and AC have the length 1 and all edges lie along one of the five lines at a multiple
 * of 36 degrees: seeds and placed halves are made so, and dividing and putting together keep it so.
 */
public final class FloorShop {
    public static final int NONE = -1;

    private static final int NO_NUMBER = -2000000;
    private static final int MOST_HALVES = 400;
    private static final int FARTHEST = 1000000;
    private static final int LONGEST = 10000000;

    private static final int POINT = 4;
    private static final int HALF = 3 * POINT;
    private static final int DIRECTIONS = 10;
    private static final int AXES = 5;

    /** E(0) to E(9), and the point 0 behind them. */
    private static final int[] UNITS = {
        1, 0, 0, 0,
        0, 0, 0, -1,
        0, 1, 0, 0,
        1, 1, 1, 1,
        0, 0, 1, 0,
        -1, 0, 0, 0,
        0, 0, 0, 1,
        0, -1, 0, 0,
        -1, -1, -1, -1,
        0, 0, -1, 0,
        0, 0, 0, 0
    };
    private static final int ORIGIN = DIRECTIONS * POINT;

    /** Corners where the edges AB, AC, BC begin and end, and their marks: TYPE 0, then TYPE 1. */
    private static final int[] EDGE_BEGINS = {0, 0, 1, 1, 0, 1};
    private static final int[] EDGE_ENDS = {1, 2, 2, 0, 2, 2};
    private static final int[] EDGE_MARKS = {0, 1, 2, 0, 1, 3};

    /** Angles at A, B, C, in 36 degrees: TYPE 0, then TYPE 1. */
    private static final int[] ANGLES = {1, 2, 2, 3, 1, 1};

    private final Strips strips;
    private final Ruler ruler;
    private final int[] work;
    private final long[] heights;
    private final int[] used;
    private Halves patch;
    private Halves spare;
    private int level;

    public FloorShop() {
        strips = new Strips();
        ruler = new Ruler();
        work = new int[5 * POINT];
        heights = new long[AXES];
        used = new int[MOST_HALVES];
        patch = new Halves();
        spare = null;
        level = 0;
    }

    public int seed(int kind) {
        if (kind < 0 || kind > 3) {
            return NONE;
        }
        patch.size = 0;
        level = 0;
        if (kind == 0) {
            layOutSun();
        } else if (kind == 1) {
            patch.append(0, UNITS, ORIGIN, 0, POINT);
        } else if (kind == 2) {
            patch.append(1, UNITS, ORIGIN, 0, 3 * POINT);
        }
        strips.measureAll(patch);
        return patch.size;
    }

    public int place(int type, int a, int b, int c, int d, int k, boolean left) {
        if (type < 0 || type > 1 || k < 0 || k >= DIRECTIONS || patch.size >= MOST_HALVES) {
            return NONE;
        }
        if (!Points.within(a, b, c, d)) {
            return NONE;
        }
        int turn = type == 0 ? 1 : 3;
        int other = (left ? k + turn : k + DIRECTIONS - turn) % DIRECTIONS;
        Points.set(work, 0, a, b, c, d);
        Points.add(work, 0, k * POINT, POINT);
        Points.add(work, 0, other * POINT, 2 * POINT);
        int n = patch.size;
        // The row behind the last half is not part of the patch before its size says so.
        patch.write(n, type, work, 0, POINT, 2 * POINT);
        if (!patch.withinLimits(n)) {
            return NONE;
        }
        strips.measure(patch, n);
        if (clashesWithEarlier(n)) {
            return NONE;
        }
        patch.size = n + 1;
        return n;
    }

    public boolean remove(int n) {
        if (n < 0 || n >= patch.size) {
            return false;
        }
        strips.closeUp(n, patch.size);
        patch.takeOut(n);
        return true;
    }

    public int inflate() {
        int whole = 0;
        for (int n = 0; n < patch.size; n++) {
            whole += patch.types[n] == 0 ? 2 : 3;
        }
        if (whole > MOST_HALVES) {
            return NONE;
        }
        Halves next = emptySpare();
        for (int n = 0; n < patch.size; n++) {
            divide(n, next);
        }
        if (!next.allWithinLimits()) {
            return NONE;
        }
        exchange(next);
        level++;
        return patch.size;
    }

    public int deflate() {
        if (patch.size == 0) {
            return NONE;
        }
        Halves next = emptySpare();
        Arrays.fill(used, 0);
        for (int n = 0; n < patch.size; n++) {
            if (patch.types[n] == 0) {
                putTogether(n, next);
            }
        }
        next.shrinkAll();
        if (!next.allWithinLimits()) {
            return NONE;
        }
        int leftOut = countUnused();
        exchange(next);
        level--;
        return leftOut;
    }

    public int clash() {
        for (int n = 1; n < patch.size; n++) {
            if (clashesWithEarlier(n)) {
                return n + 1;
            }
        }
        return 0;
    }

    public int count(int what) {
        switch (what) {
            case 0:
                return patch.size;
            case 1:
                return countType(0);
            case 2:
                return countType(1);
            case 3:
                return level;
            case 4:
                return countLoneEdges();
            case 5:
                return countPoints();
            case 6:
                return countPaired();
            default:
                return NONE;
        }
    }

    public int corner(int n, int corner, int i) {
        if (!patch.has(n, corner) || i < 0 || i > POINT) {
            return NO_NUMBER;
        }
        return i == POINT ? patch.types[n] : patch.numbers[Halves.at(n, corner) + i];
    }

    public int star(int n, int corner, int what) {
        if (!patch.has(n, corner) || what < 0 || what > 2) {
            return NONE;
        }
        int halves = 0;
        int angles = 0;
        for (int m = 0; m < patch.size; m++) {
            int own = patch.cornerAt(m, n, corner);
            if (own != NONE) {
                halves++;
                angles += ANGLES[3 * patch.types[m] + own];
            }
        }
        if (what == 0) {
            return halves;
        }
        if (what == 1) {
            return angles;
        }
        // Halves whose insides have nothing in common cover the way round just if their angles do.
        return angles == DIRECTIONS && !starClashes(n, corner) ? 1 : 0;
    }

    public int inside(int a, int b, int c, int d) {
        if (!Points.within(a, b, c, d)) {
            return NONE;
        }
        Points.set(work, 0, a, b, c, d);
        for (int axis = 0; axis < AXES; axis++) {
            heights[axis] = Points.height(axis, work, 0);
        }
        for (int n = 0; n < patch.size; n++) {
            if (strips.hold(n, heights)) {
                return n;
            }
        }
        return NONE;
    }

    public long steps(int n, int corner, int axis, int length) {
        if (!patch.has(n, corner) || axis < 0 || axis > 1 || length < 1 || length > LONGEST) {
            return 0;
        }
        if (axis == 0) {
            ruler.layRight(patch.numbers, Halves.at(n, corner), length);
        } else {
            ruler.layUp(patch.numbers, Halves.at(n, corner), length);
        }
        return ruler.nearest();
    }

    private void layOutSun() {
        for (int k = 0; k < DIRECTIONS; k++) {
            int here = k * POINT;
            int next = (k + 1) % DIRECTIONS * POINT;
            if (k % 2 == 0) {
                patch.append(0, UNITS, ORIGIN, here, next);
            } else {
                patch.append(0, UNITS, ORIGIN, next, here);
            }
        }
    }

    /** Made when it is first asked for: many objects never divide anything. */
    private Halves emptySpare() {
        if (spare == null) {
            spare = new Halves();
        }
        spare.size = 0;
        return spare;
    }

    private void exchange(Halves next) {
        spare = patch;
        patch = next;
        strips.measureAll(patch);
    }

    private void divide(int n, Halves next) {
        int a = 0;
        int b = POINT;
        int c = 2 * POINT;
        for (int corner = 0; corner < 3; corner++) {
            Points.enlarge(patch.numbers, Halves.at(n, corner), work, corner * POINT);
        }
        if (patch.types[n] == 0) {
            int p = 3 * POINT;
            Points.cut(work, a, b, p);
            next.append(0, work, c, p, b);
            next.append(1, work, p, c, a);
        } else {
            int q = 3 * POINT;
            int r = 4 * POINT;
            Points.cut(work, b, a, q);
            Points.cut(work, b, c, r);
            next.append(1, work, r, c, a);
            next.append(1, work, q, r, b);
            next.append(0, work, r, q, a);
        }
    }

    /** What comes of half x and those at it, as large as they are; x is of TYPE 0. */
    private void putTogether(int x, Halves next) {
        int n = findAtLegB(x);
        int m = findAtLegC(x);
        if (n == NONE || m == NONE || used[n] != 0) {
            return;
        }
        int xEnd = Halves.at(x, 2);
        int nEnd = Halves.at(n, 2);
        if (patch.types[m] == 0) {
            next.append(0, patch.numbers, nEnd, xEnd, Halves.at(x, 0));
        } else if (used[m] == 0) {
            next.append(1, patch.numbers, xEnd, nEnd, Halves.at(m, 1));
            used[m] = 1;
        } else {
            return;
        }
        used[x] = 1;
        used[n] = 1;
    }

    private int findAtLegB(int x) {
        for (int n = 0; n < patch.size; n++) {
            if (patch.types[n] == 1 && patch.samePoint(n, 0, x, 1) && patch.samePoint(n, 1, x, 0)) {
                return n;
            }
        }
        return NONE;
    }

    private int findAtLegC(int x) {
        for (int m = 0; m < patch.size; m++) {
            if (m != x && patch.samePoint(m, 0, x, 0) && patch.samePoint(m, 2, x, 2)) {
                return m;
            }
        }
        return NONE;
    }

    private int countUnused() {
        int unused = 0;
        for (int n = 0; n < patch.size; n++) {
            if (used[n] == 0) {
                unused++;
            }
        }
        return unused;
    }

    private boolean clashesWithEarlier(int n) {
        for (int m = 0; m < n; m++) {
            if (clashing(m, n)) {
                return true;
            }
        }
        return false;
    }

    private boolean clashing(int m, int n) {
        if (strips.apart(m, n)) {
            return false;
        }
        if (strips.overlap(m, n)) {
            return true;
        }
        for (int pair = 0; pair < 9; pair++) {
            if (disagree(m, 3 * patch.types[m] + pair / 3, n, 3 * patch.types[n] + pair % 3)) {
                return true;
            }
        }
        return false;
    }

    /** The edges are told by their places in the rows of begins, ends and marks. */
    private boolean disagree(int m, int edge, int n, int other) {
        int from = Halves.at(m, EDGE_BEGINS[edge]);
        int to = Halves.at(m, EDGE_ENDS[edge]);
        int otherFrom = Halves.at(n, EDGE_BEGINS[other]);
        int otherTo = Halves.at(n, EDGE_ENDS[other]);
        if (EDGE_MARKS[edge] == EDGE_MARKS[other]
                && Points.same(patch.numbers, from, otherFrom)
                && Points.same(patch.numbers, to, otherTo)) {
            return false;
        }
        return Points.piecesShare(patch.numbers, from, to, otherFrom, otherTo);
    }

    private boolean starClashes(int n, int corner) {
        for (int m = 1; m < patch.size; m++) {
            if (patch.cornerAt(m, n, corner) == NONE) {
                continue;
            }
            for (int earlier = 0; earlier < m; earlier++) {
                if (patch.cornerAt(earlier, n, corner) != NONE && clashing(earlier, m)) {
                    return true;
                }
            }
        }
        return false;
    }

    private int countType(int type) {
        int halves = 0;
        for (int n = 0; n < patch.size; n++) {
            if (patch.types[n] == type) {
                halves++;
            }
        }
        return halves;
    }

    private int countLoneEdges() {
        int lone = 0;
        for (int n = 0; n < patch.size; n++) {
            int shared = 0;
            for (int m = 0; m < patch.size; m++) {
                if (m != n && !strips.apart(m, n)) {
                    shared |= sharedEdges(n, m);
                }
            }
            lone += 3 - Integer.bitCount(shared);
        }
        return lone;
    }

    /** A bit for each edge of half n that half m has too: two corners in common are an edge. */
    private int sharedEdges(int n, int m) {
        boolean a = patch.cornerAt(m, n, 0) != NONE;
        boolean b = patch.cornerAt(m, n, 1) != NONE;
        boolean c = patch.cornerAt(m, n, 2) != NONE;
        return (a && b ? 1 : 0) | (a && c ? 2 : 0) | (b && c ? 4 : 0);
    }

    private int countPoints() {
        int points = 0;
        for (int n = 0; n < patch.size; n++) {
            for (int corner = 0; corner < 3; corner++) {
                if (isFirstAt(n, corner)) {
                    points++;
                }
            }
        }
        return points;
    }

    private boolean isFirstAt(int n, int corner) {
        for (int m = 0; m < n; m++) {
            if (patch.cornerAt(m, n, corner) != NONE) {
                return false;
            }
        }
        return true;
    }

    private int countPaired() {
        int paired = 0;
        for (int n = 0; n < patch.size; n++) {
            if (isPaired(n)) {
                paired++;
            }
        }
        return paired;
    }

    private boolean isPaired(int n) {
        for (int m = 0; m < patch.size; m++) {
            if (m != n && patch.types[m] == patch.types[n]
                    && patch.samePoint(m, 1, n, 1) && patch.samePoint(m, 2, n, 2)) {
                return true;
            }
        }
        return false;
    }

    /** Arithmetic of points, each of them four numbers in a row from a place on. */
    private static final class Points {
        /** Neighbours among Fibonacci's numbers: they stand for 1 and G in heights. */
        private static final long ONE = 12586269025L;
        private static final long GOLDEN = 20365011074L;

        /**
         * The heights of 1, Z, Z^2, Z^3 above the line through 0 at 36 * axis degrees, in units of
         * sin(36 degrees): sin(72 j - 36 axis) / sin(36) is 0, 1, -1, G or -G.
         */
        private static final long[] RISES = {
            0, GOLDEN, ONE, -ONE,
            -ONE, ONE, GOLDEN, 0,
            -GOLDEN, 0, GOLDEN, ONE,
            -GOLDEN, -ONE, ONE, GOLDEN,
            -ONE, -GOLDEN, 0, GOLDEN
        };

        static boolean within(int a, int b, int c, int d) {
            return near(a) && near(b) && near(c) && near(d);
        }

        static boolean near(int number) {
            return number >= -FARTHEST && number <= FARTHEST;
        }

        static void set(int[] row, int at, int a, int b, int c, int d) {
            row[at] = a;
            row[at + 1] = b;
            row[at + 2] = c;
            row[at + 3] = d;
        }

        static void add(int[] row, int at, int unit, int to) {
            for (int i = 0; i < POINT; i++) {
                row[to + i] = row[at + i] + UNITS[unit + i];
            }
        }

        static boolean same(int[] row, int p, int q) {
            return row[p] == row[q] && row[p + 1] == row[q + 1]
                && row[p + 2] == row[q + 2] && row[p + 3] == row[q + 3];
        }

        /** A point times G. */
        static void enlarge(int[] row, int at, int[] target, int to) {
            int a = row[at];
            int b = row[at + 1];
            int c = row[at + 2];
            int d = row[at + 3];
            set(target, to, b - d, b + c - d, b + c - a, c - a);
        }

        /** A point divided by G: times G, less itself. */
        static void shrink(int[] row, int at) {
            int a = row[at];
            int b = row[at + 1];
            int c = row[at + 2];
            int d = row[at + 3];
            set(row, at, b - d - a, c - d, b - a, c - a - d);
        }

        /** The point that is 1 / G of the way from one to another. */
        static void cut(int[] row, int from, int end, int to) {
            for (int i = 0; i < POINT; i++) {
                row[to + i] = row[end + i] - row[from + i];
            }
            shrink(row, to);
            for (int i = 0; i < POINT; i++) {
                row[to + i] += row[from + i];
            }
        }

        /**
         * A whole number that is greater, equal or less just as the height is. Two heights differ
         * by p + q G with |p| + |q| <= 8000000, so by 0 or by more than 1 / 8000000, for its product
         * with p + q (1 - G) is a whole number; p ONE + q GOLDEN is ONE times that difference
         * to within 0.001, for GOLDEN is so near to G ONE, and has the same sign.
         */
        static long height(int axis, int[] row, int at) {
            int rise = axis * POINT;
            return RISES[rise] * row[at] + RISES[rise + 1] * row[at + 1]
                + RISES[rise + 2] * row[at + 2] + RISES[rise + 3] * row[at + 3];
        }

        /** Whether two edges have more than one point in common. */
        static boolean piecesShare(int[] row, int from, int to, int otherFrom, int otherTo) {
            for (int axis = 0; axis < AXES; axis++) {
                long line = height(axis, row, from);
                if (line == height(axis, row, to)) {
                    return line == height(axis, row, otherFrom)
                        && line == height(axis, row, otherTo)
                        && runsMeet((axis + 1) % AXES, row, from, to, otherFrom, otherTo);
                }
            }
            return false;
        }

        /** For pieces of one line, which are steep to the axis. */
        static boolean runsMeet(int axis, int[] row, int from, int to, int otherFrom, int otherTo) {
            long p = height(axis, row, from);
            long q = height(axis, row, to);
            long r = height(axis, row, otherFrom);
            long s = height(axis, row, otherTo);
            return Math.min(p, q) < Math.max(r, s) && Math.min(r, s) < Math.max(p, q);
        }
    }

    /** A list of halves. */
    private static final class Halves {
        private final int[] types = new int[MOST_HALVES];
        private final int[] numbers = new int[MOST_HALVES * HALF];
        private int size = 0;

        /** Where the numbers of a corner begin. */
        static int at(int n, int corner) {
            return n * HALF + corner * POINT;
        }

        boolean has(int n, int corner) {
            return n >= 0 && n < size && corner >= 0 && corner <= 2;
        }

        void append(int type, int[] row, int a, int b, int c) {
            if (size < MOST_HALVES) {
                write(size, type, row, a, b, c);
                size++;
            }
        }

        void write(int n, int type, int[] row, int a, int b, int c) {
            types[n] = type;
            System.arraycopy(row, a, numbers, at(n, 0), POINT);
            System.arraycopy(row, b, numbers, at(n, 1), POINT);
            System.arraycopy(row, c, numbers, at(n, 2), POINT);
        }

        void takeOut(int n) {
            int behind = size - n - 1;
            System.arraycopy(types, n + 1, types, n, behind);
            System.arraycopy(numbers, at(n + 1, 0), numbers, at(n, 0), behind * HALF);
            size--;
        }

        void shrinkAll() {
            for (int n = 0; n < size; n++) {
                for (int corner = 0; corner < 3; corner++) {
                    Points.shrink(numbers, at(n, corner));
                }
            }
        }

        boolean withinLimits(int n) {
            int begin = at(n, 0);
            for (int i = 0; i < HALF; i++) {
                if (!Points.near(numbers[begin + i])) {
                    return false;
                }
            }
            return true;
        }

        boolean allWithinLimits() {
            for (int n = 0; n < size; n++) {
                if (!withinLimits(n)) {
                    return false;
                }
            }
            return true;
        }

        boolean samePoint(int n, int corner, int m, int other) {
            return Points.same(numbers, at(n, corner), at(m, other));
        }

        /** Which corner of half m lies at that corner of half n; NONE if none does. */
        int cornerAt(int m, int n, int corner) {
            for (int own = 0; own < 3; own++) {
                if (samePoint(m, own, n, corner)) {
                    return own;
                }
            }
            return NONE;
        }
    }

    /**
     * The least and the greatest height of each half above each of the five lines. As all edges
     * are along these lines, a half is just where its five strips have their points in common, and
     * two halves whose insides are apart are parted by a strip.
     */
    private static final class Strips {
        private final long[] low = new long[MOST_HALVES * AXES];
        private final long[] high = new long[MOST_HALVES * AXES];

        void measureAll(Halves halves) {
            for (int n = 0; n < halves.size; n++) {
                measure(halves, n);
            }
        }

        void measure(Halves halves, int n) {
            for (int axis = 0; axis < AXES; axis++) {
                long a = Points.height(axis, halves.numbers, Halves.at(n, 0));
                long b = Points.height(axis, halves.numbers, Halves.at(n, 1));
                long c = Points.height(axis, halves.numbers, Halves.at(n, 2));
                low[n * AXES + axis] = Math.min(a, Math.min(b, c));
                high[n * AXES + axis] = Math.max(a, Math.max(b, c));
            }
        }

        /** Those behind half n come up, in a patch of so many. */
        void closeUp(int n, int size) {
            int behind = (size - n - 1) * AXES;
            System.arraycopy(low, (n + 1) * AXES, low, n * AXES, behind);
            System.arraycopy(high, (n + 1) * AXES, high, n * AXES, behind);
        }

        /** Whether two halves have no point in common at all. */
        boolean apart(int m, int n) {
            int p = m * AXES;
            int q = n * AXES;
            for (int axis = 0; axis < AXES; axis++) {
                if (low[p + axis] > high[q + axis] || low[q + axis] > high[p + axis]) {
                    return true;
                }
            }
            return false;
        }

        /** Whether the insides of two halves have a point in common. */
        boolean overlap(int m, int n) {
            int p = m * AXES;
            int q = n * AXES;
            for (int axis = 0; axis < AXES; axis++) {
                if (low[p + axis] >= high[q + axis] || low[q + axis] >= high[p + axis]) {
                    return false;
                }
            }
            return true;
        }

        boolean hold(int n, long[] heights) {
            for (int axis = 0; axis < AXES; axis++) {
                long height = heights[axis];
                if (height < low[n * AXES + axis] || height > high[n * AXES + axis]) {
                    return false;
                }
            }
            return true;
        }
    }

    /** Measures how far to the right or upwards a point lies, in steps. */
    private static final class Ruler {
        /** Beyond all places: no point is more than 3000000 sides away from 0. */
        private static final long BEYOND = 40000000000000L;
        private static final int BISECTIONS = 64;
        /** The sign of p + q G is seen after some 140 rounds, for p and q of 100 bits. */
        private static final int ROUNDS = 1000;

        private boolean upwards = false;
        private int side = 0;
        /** Twice the place, or upwards the square of that, is scale * (whole + golden * G). */
        private long scale = 0;
        private long whole = 0;
        private long golden = 0;
        private Wide p = new Wide();
        private Wide q = new Wide();

        void layRight(int[] row, int at, long length) {
            upwards = false;
            scale = length;
            whole = 2 * row[at] - row[at + 1];
            golden = row[at + 1] - row[at + 2] - row[at + 3];
        }

        /** The height is sin(36) * (x + y G), and the square of 2 sin(36) is 3 - G. */
        void layUp(int[] row, int at, long length) {
            upwards = true;
            side = Long.signum(Points.height(0, row, at));
            scale = length * length;
            long x = row[at + 2] - row[at + 3];
            long y = row[at + 1];
            long squareWhole = x * x + y * y;
            long squareGolden = 2 * x * y + y * y;
            whole = 3 * squareWhole - squareGolden;
            golden = 2 * squareGolden - squareWhole;
        }

        /** The greatest whole number that is not above the place and a half. */
        long nearest() {
            long reached = -BEYOND;
            long missed = BEYOND;
            for (int round = 0; round < BISECTIONS && missed - reached > 1; round++) {
                long middle = (reached + missed) >> 1;
                if (twiceReaches(2 * middle - 1)) {
                    reached = middle;
                } else {
                    missed = middle;
                }
            }
            return reached;
        }

        /** Whether twice the place is at least an odd number. */
        private boolean twiceReaches(long odd) {
            if (!upwards) {
                return compareScaled(1, odd) >= 0;
            }
            if (odd < 0 && side >= 0) {
                return true;
            }
            if (odd > 0 && side <= 0) {
                return false;
            }
            int order = compareScaled(odd, odd);
            return odd > 0 ? order >= 0 : order <= 0;
        }

        /** The sign of scale * (whole + golden * G) less the product of two numbers. */
        private int compareScaled(long factor, long other) {
            p.clear();
            p.addProduct(scale, whole);
            p.addProduct(-factor, other);
            q.clear();
            q.addProduct(scale, golden);
            return goldenSign();
        }

        /**
         * The sign of p + q G. Times G it is q + (p + q) G: p and q of different signs only
         * become less by that, and come to have the same one.
         */
        private int goldenSign() {
            for (int round = 0; round < ROUNDS; round++) {
                int pSign = p.sign();
                int qSign = q.sign();
                if (pSign * qSign >= 0) {
                    return Integer.signum(pSign + qSign);
                }
                p.add(q);
                Wide sum = p;
                p = q;
                q = sum;
            }
            return 0;
        }
    }

    /** A whole number of up to 100 bits: high * 2^52 + low, with low never below 0. */
    private static final class Wide {
        private static final int LOW_BITS = 52;
        private static final int PART_BITS = 26;
        private static final long LOW_MASK = (1L << LOW_BITS) - 1;
        private static final long PART_MASK = (1L << PART_BITS) - 1;

        private long high = 0;
        private long low = 0;

        void clear() {
            high = 0;
            low = 0;
        }

        int sign() {
            return high == 0 ? Long.signum(low) : Long.signum(high);
        }

        void add(Wide other) {
            addParts(other.high, other.low);
        }

        /** For factors of less than 50 bits: no part of their product is beyond a long then. */
        void addProduct(long x, long y) {
            long xHigh = x >> PART_BITS;
            long xLow = x & PART_MASK;
            long yHigh = y >> PART_BITS;
            long yLow = y & PART_MASK;
            long middle = xHigh * yLow + xLow * yHigh;
            addParts(xHigh * yHigh + (middle >> PART_BITS), (middle & PART_MASK) << PART_BITS);
            addParts(0, xLow * yLow);
        }

        private void addParts(long moreHigh, long moreLow) {
            long sum = low + moreLow;
            high += moreHigh + (sum >> LOW_BITS);
            low = sum & LOW_MASK;
        }
    }
}
