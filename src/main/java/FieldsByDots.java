/**
 * Many-cornered fields on a grid of 16 by 16 dots. The document (shared/DOC.md) says, promise by
 * promise, what each call answers; the words in capitals there are used here in lower case.
 */
public final class FieldsByDots {
    public static final int UNKNOWN = -1, OUTSIDE = -2, STATE = -3, FULL = -4, NONE = -9;

    private static final int FIELDS = 4;
    private static final int SLOTS = 2;
    private static final int MOST_CORNERS = 10;
    private static final int FEWEST_CORNERS = 3;
    private static final int MOST_BYTES = 24;
    private static final int MOST_BYTES_A_CALL = 8;
    private static final int LAST_DOT = 15;
    private static final int STEEPEST = 9;
    private static final int MOST_GROWN = 99;

    private static final int ON_FENCE = 0, WITHIN = 1, BEYOND = 2;
    private static final int STICKS_OUT = 0, FLAT = 1, STICKS_IN = 2;

    /** A pair of corners is told as this many times the lesser one, and the greater one. */
    private static final int TELL = 10;

    private final Text text;
    private final Outline[] fields;
    private final Outline[] kept;
    private final boolean[] isKept;
    private final Outline spare;
    private final Sights sights;
    private final Cuts cuts;
    private final Likeness likeness;

    public FieldsByDots() {
        text = new Text();
        fields = new Outline[FIELDS];
        for (int i = 0; i < FIELDS; i++) {
            fields[i] = new Outline();
        }
        kept = new Outline[SLOTS * FIELDS];
        for (int i = 0; i < SLOTS * FIELDS; i++) {
            kept[i] = new Outline();
        }
        isKept = new boolean[SLOTS];
        spare = new Outline();
        sights = new Sights();
        cuts = new Cuts();
        likeness = new Likeness();
    }

    // ---- fields

    public int write(int n, long v) {
        if (n < 1 || n > MOST_BYTES_A_CALL) {
            return OUTSIDE;
        }
        if (text.length + n > MOST_BYTES) {
            return FULL;
        }
        text.append(n, v);
        return text.length;
    }

    public int wipe() {
        int was = text.length;
        text.length = 0;
        return was;
    }

    public int fault() {
        return text.firstFault();
    }

    public int field(int field) {
        if (!isField(field)) {
            return UNKNOWN;
        }
        if (text.firstFault() != NONE) {
            return STATE;
        }
        text.tellInto(fields[field]);
        return fields[field].size;
    }

    public int corner(int field, int corner, int what) {
        if (!isCorner(field, corner)) {
            return UNKNOWN;
        }
        if (what != 0 && what != 1) {
            return OUTSIDE;
        }
        return what == 0 ? fields[field].xs[corner] : fields[field].ys[corner];
    }

    public int move(int field, int corner, int x, int y) {
        if (!isCorner(field, corner)) {
            return UNKNOWN;
        }
        if (!isDot(x, y)) {
            return OUTSIDE;
        }
        int there = fields[field].cornerAt(x, y);
        if (there == corner) {
            return 0;
        }
        if (there != NONE) {
            return STATE;
        }
        fields[field].xs[corner] = x;
        fields[field].ys[corner] = y;
        return 1;
    }

    public int put(int field, int at, int x, int y) {
        if (!isField(field) || at < 0 || at > fields[field].size) {
            return UNKNOWN;
        }
        if (!isDot(x, y)) {
            return OUTSIDE;
        }
        if (fields[field].cornerAt(x, y) != NONE) {
            return STATE;
        }
        if (fields[field].size >= MOST_CORNERS) {
            return FULL;
        }
        fields[field].insert(at, x, y);
        return fields[field].size;
    }

    public int take(int field, int corner) {
        if (!isCorner(field, corner)) {
            return UNKNOWN;
        }
        if (fields[field].size <= FEWEST_CORNERS) {
            return STATE;
        }
        fields[field].remove(corner);
        return fields[field].size;
    }

    public int turn(int field, int t) {
        if (!isField(field)) {
            return UNKNOWN;
        }
        if (t < 0 || t > 7) {
            return OUTSIDE;
        }
        if (t >= 4) {
            fields[field].mirrorLeftToRight();
        }
        for (int quarter = 0; quarter < (t & 3); quarter++) {
            fields[field].turnQuarterLeft();
        }
        return fields[field].size;
    }

    public int shift(int field, int x, int y) {
        if (!isField(field)) {
            return UNKNOWN;
        }
        if (x < -LAST_DOT || x > LAST_DOT || y < -LAST_DOT || y > LAST_DOT) {
            return OUTSIDE;
        }
        if (!fields[field].staysOnDots(x, y)) {
            return STATE;
        }
        fields[field].shiftBy(x, y);
        return fields[field].size;
    }

    // ---- what they are

    public int sound(int field) {
        if (!isField(field)) {
            return UNKNOWN;
        }
        return fields[field].isSound() ? 1 : 0;
    }

    public int about(int field, int what) {
        if (!isField(field)) {
            return UNKNOWN;
        }
        if (what < 0 || what > 8) {
            return OUTSIDE;
        }
        if (!fields[field].isSound()) {
            return STATE;
        }
        return what < 6 ? aboutShape(fields[field], what) : aboutCuts(fields[field], what);
    }

    public int where(int field, int x, int y) {
        if (!isField(field)) {
            return UNKNOWN;
        }
        if (!isDot(x, y)) {
            return OUTSIDE;
        }
        if (!fields[field].isSound()) {
            return STATE;
        }
        return fields[field].placeOf(2 * x, 2 * y);
    }

    public int how(int field, int corner) {
        if (!isCorner(field, corner)) {
            return UNKNOWN;
        }
        if (!fields[field].isSound()) {
            return STATE;
        }
        return fields[field].bendAt(corner);
    }

    public int wide(int field, int a, int b) {
        if (!isField(field)) {
            return UNKNOWN;
        }
        if (!isSlant(a, b)) {
            return OUTSIDE;
        }
        if (fields[field].size == 0) {
            return STATE;
        }
        return fields[field].widthBy(a, b);
    }

    public int narrow(int field, int what) {
        if (!isField(field)) {
            return UNKNOWN;
        }
        if (what < 0 || what > 2) {
            return OUTSIDE;
        }
        if (fields[field].size == 0) {
            return STATE;
        }
        return narrowest(fields[field], what);
    }

    public long grown(int field, int t) {
        if (!isField(field)) {
            return UNKNOWN;
        }
        if (t < 1 || t > MOST_GROWN) {
            return OUTSIDE;
        }
        if (!fields[field].isSound()) {
            return STATE;
        }
        // Pick's rule: the area grows by t squared, the dots on fences by t.
        long area = (long) Math.abs(fields[field].signedArea()) * t * t;
        long onFences = (long) fields[field].fenceDots() * t;
        return (area + onFences) / 2 + 1;
    }

    public int hull(int field, int other) {
        if (!isField(field) || !isField(other)) {
            return UNKNOWN;
        }
        if (fields[other].isInOneLine()) {
            return STATE;
        }
        fields[other].hullInto(spare);
        fields[field].copyFrom(spare);
        return fields[field].size;
    }

    // ---- sights

    public int sees(int field, int corner, int other) {
        if (!isPair(field, corner, other) || corner == other) {
            return UNKNOWN;
        }
        if (!fields[field].isSound()) {
            return STATE;
        }
        return fields[field].isSeen(corner, other) ? 1 : 0;
    }

    public int strip(int field, int corner, int other) {
        if (!isPair(field, corner, other) || corner == other) {
            return UNKNOWN;
        }
        if (!fields[field].isSound()) {
            return STATE;
        }
        return fields[field].isStrip(corner, other) ? 1 : 0;
    }

    public int least(int field, int i) {
        if (!isField(field)) {
            return UNKNOWN;
        }
        if (!fields[field].isSound()) {
            return STATE;
        }
        sights.lookAt(fields[field]);
        cuts.plan(fields[field], sights);
        return cuts.stripOfFirst(i);
    }

    public int fair(int field) {
        if (!isField(field)) {
            return UNKNOWN;
        }
        if (!fields[field].isSound()) {
            return STATE;
        }
        sights.lookAt(fields[field]);
        return fairest(fields[field]);
    }

    public int sides(int field, int corner, int other) {
        if (!isPair(field, corner, other)) {
            return UNKNOWN;
        }
        if (!fields[field].isSound() || !fields[field].isStrip(corner, other)) {
            return STATE;
        }
        return fields[field].unlikenessOfSides(corner, other);
    }

    public int guards(int field) {
        if (!isField(field)) {
            return UNKNOWN;
        }
        if (!fields[field].isSound()) {
            return STATE;
        }
        sights.lookAt(fields[field]);
        return sights.fewestThatSeeAll();
    }

    public int hops(int field, int corner, int other) {
        if (!isPair(field, corner, other)) {
            return UNKNOWN;
        }
        if (!fields[field].isSound()) {
            return STATE;
        }
        sights.lookAt(fields[field]);
        return sights.stepsBetween(corner, other);
    }

    // ---- two

    public int alike(int field, int other) {
        int refusal = refusalOfTwo(field, other);
        if (refusal != 0) {
            return refusal;
        }
        boolean found = likeness.isFound(fields[field], fields[other], 1)
                || likeness.isFound(fields[field], fields[other], -1);
        return found ? 1 : 0;
    }

    public int mirrored(int field, int other) {
        int refusal = refusalOfTwo(field, other);
        if (refusal != 0) {
            return refusal;
        }
        return likeness.isFound(fields[field], fields[other], -1) ? 1 : 0;
    }

    public int common(int field, int other) {
        int refusal = refusalOfTwo(field, other);
        if (refusal != 0) {
            return refusal;
        }
        int dots = 0;
        for (int x = 0; x <= LAST_DOT; x++) {
            for (int y = 0; y <= LAST_DOT; y++) {
                if (fields[field].placeOf(2 * x, 2 * y) != BEYOND
                        && fields[other].placeOf(2 * x, 2 * y) != BEYOND) {
                    dots++;
                }
            }
        }
        return dots;
    }

    // ---- slots

    public int keep(int slot) {
        if (slot < 0 || slot >= SLOTS) {
            return UNKNOWN;
        }
        for (int i = 0; i < FIELDS; i++) {
            kept[slot * FIELDS + i].copyFrom(fields[i]);
        }
        isKept[slot] = true;
        return allCorners();
    }

    public int again(int slot) {
        if (slot < 0 || slot >= SLOTS) {
            return UNKNOWN;
        }
        if (!isKept[slot]) {
            return STATE;
        }
        for (int i = 0; i < FIELDS; i++) {
            fields[i].copyFrom(kept[slot * FIELDS + i]);
        }
        return allCorners();
    }

    public int count(int what) {
        switch (what) {
            case 0:
                return text.length;
            case 1:
                return allCorners();
            case 2:
                return soundFields();
            default:
                return OUTSIDE;
        }
    }

    // ---- helpers of the calls

    private static boolean isField(int field) {
        return field >= 0 && field < FIELDS;
    }

    private static boolean isDot(int x, int y) {
        return x >= 0 && x <= LAST_DOT && y >= 0 && y <= LAST_DOT;
    }

    private static boolean isSlant(int a, int b) {
        return a >= -STEEPEST && a <= STEEPEST && b >= -STEEPEST && b <= STEEPEST
                && (a != 0 || b != 0);
    }

    private boolean isCorner(int field, int corner) {
        return isField(field) && fields[field].has(corner);
    }

    private boolean isPair(int field, int corner, int other) {
        return isCorner(field, corner) && isCorner(field, other);
    }

    /** UNKNOWN or STATE; 0 if both are sound fields. */
    private int refusalOfTwo(int field, int other) {
        if (!isField(field) || !isField(other)) {
            return UNKNOWN;
        }
        return fields[field].isSound() && fields[other].isSound() ? 0 : STATE;
    }

    private static int aboutShape(Outline shape, int what) {
        switch (what) {
            case 0:
                return Math.abs(shape.signedArea());
            case 1:
                return shape.signedArea() > 0 ? 1 : 0;
            case 2:
                return shape.fenceDots();
            case 3:
                return shape.innerDots();
            case 4:
                return shape.cornersThat(STICKS_IN);
            default:
                return shape.cornersThat(FLAT);
        }
    }

    private int aboutCuts(Outline shape, int what) {
        sights.lookAt(shape);
        if (what == 6) {
            return sights.stripNumber();
        }
        cuts.plan(shape, sights);
        return what == 7 ? cuts.allWays() : cuts.leastLong();
    }

    /** The least width (what = 0), and a (1), b and 100 (2) of the first slant that has it. */
    private static int narrowest(Outline shape, int what) {
        int least = shape.widthBy(0, -1);
        int leastA = 0;
        int leastB = -1;
        for (int a = 1; a <= STEEPEST; a++) {
            for (int b = -STEEPEST; b <= STEEPEST; b++) {
                if (commonDivisor(a, Math.abs(b)) == 1 && shape.widthBy(a, b) < least) {
                    least = shape.widthBy(a, b);
                    leastA = a;
                    leastB = b;
                }
            }
        }
        if (what == 0) {
            return least;
        }
        return what == 1 ? leastA : leastB + 100;
    }

    private int fairest(Outline shape) {
        int best = NONE;
        int least = 0;
        for (int a = 0; a < shape.size; a++) {
            for (int b = a + 1; b < shape.size; b++) {
                if (sights.hasStrip(a, b)) {
                    int unlike = shape.unlikenessOfSides(a, b);
                    if (best == NONE || unlike < least) {
                        best = TELL * a + b;
                        least = unlike;
                    }
                }
            }
        }
        return best;
    }

    private int allCorners() {
        int all = 0;
        for (int i = 0; i < FIELDS; i++) {
            all += fields[i].size;
        }
        return all;
    }

    private int soundFields() {
        int all = 0;
        for (int i = 0; i < FIELDS; i++) {
            if (fields[i].isSound()) {
                all++;
            }
        }
        return all;
    }

    /** The greatest common divisor of two numbers from 0 to 15 that are not both 0. */
    private static int commonDivisor(int p, int q) {
        for (int d = LAST_DOT; d > 1; d--) {
            if (p % d == 0 && q % d == 0) {
                return d;
            }
        }
        return 1;
    }

    /** The bytes that fields are told by. */
    private static final class Text {
        final int[] bytes = new int[MOST_BYTES];
        int length;

        void append(int n, long v) {
            for (int i = n - 1; i >= 0; i--) {
                bytes[length] = (int) (v >> (8 * i)) & 255;
                length++;
            }
        }

        int firstFault() {
            for (int i = 0; i < length; i++) {
                if (isFaulty(i)) {
                    return i;
                }
            }
            boolean isWhole = length >= 2 * FEWEST_CORNERS && length % 2 == 0;
            return isWhole ? NONE : length;
        }

        private boolean isFaulty(int i) {
            if (i >= 2 * MOST_CORNERS || valueOf(bytes[i]) == NONE) {
                return true;
            }
            return i % 2 == 1 && isToldBefore(i);
        }

        /** Whether the corner that ends at byte i has been told by bytes ahead of it. */
        private boolean isToldBefore(int i) {
            for (int k = 1; k < i; k += 2) {
                if (bytes[k - 1] == bytes[i - 1] && bytes[k] == bytes[i]) {
                    return true;
                }
            }
            return false;
        }

        private static int valueOf(int sign) {
            if (sign >= '0' && sign <= '9') {
                return sign - '0';
            }
            return sign >= 'a' && sign <= 'f' ? sign - 'a' + 10 : NONE;
        }

        /** Only for a text without a fault. */
        void tellInto(Outline shape) {
            shape.size = length / 2;
            for (int i = 0; i < shape.size; i++) {
                shape.xs[i] = valueOf(bytes[2 * i]);
                shape.ys[i] = valueOf(bytes[2 * i + 1]);
            }
        }
    }

    /** The corners of one field. Its methods are given only corners that it has. */
    private static final class Outline {
        final int[] xs = new int[MOST_CORNERS];
        final int[] ys = new int[MOST_CORNERS];
        int size;

        boolean has(int corner) {
            return corner >= 0 && corner < size;
        }

        int cornerAt(int x, int y) {
            for (int i = 0; i < size; i++) {
                if (xs[i] == x && ys[i] == y) {
                    return i;
                }
            }
            return NONE;
        }

        void copyFrom(Outline other) {
            size = other.size;
            for (int i = 0; i < size; i++) {
                xs[i] = other.xs[i];
                ys[i] = other.ys[i];
            }
        }

        void insert(int at, int x, int y) {
            for (int i = size; i > at; i--) {
                xs[i] = xs[i - 1];
                ys[i] = ys[i - 1];
            }
            xs[at] = x;
            ys[at] = y;
            size++;
        }

        void remove(int corner) {
            for (int i = corner; i + 1 < size; i++) {
                xs[i] = xs[i + 1];
                ys[i] = ys[i + 1];
            }
            size--;
        }

        void mirrorLeftToRight() {
            for (int i = 0; i < size; i++) {
                xs[i] = LAST_DOT - xs[i];
            }
        }

        void turnQuarterLeft() {
            for (int i = 0; i < size; i++) {
                int x = xs[i];
                xs[i] = LAST_DOT - ys[i];
                ys[i] = x;
            }
        }

        boolean staysOnDots(int x, int y) {
            for (int i = 0; i < size; i++) {
                if (!isDot(xs[i] + x, ys[i] + y)) {
                    return false;
                }
            }
            return true;
        }

        void shiftBy(int x, int y) {
            for (int i = 0; i < size; i++) {
                xs[i] += x;
                ys[i] += y;
            }
        }

        int next(int corner) {
            return corner + 1 < size ? corner + 1 : 0;
        }

        int previous(int corner) {
            return corner > 0 ? corner - 1 : size - 1;
        }

        /** Above 0 if c is to the left of the line from a to b, 0 if on it, else below 0. */
        int sideOf(int a, int b, int c) {
            return (xs[b] - xs[a]) * (ys[c] - ys[a]) - (ys[b] - ys[a]) * (xs[c] - xs[a]);
        }

        /** Below 0 if, seen from c, a and b are more than a quarter apart. */
        int spreadAt(int c, int a, int b) {
            return (xs[a] - xs[c]) * (xs[b] - xs[c]) + (ys[a] - ys[c]) * (ys[b] - ys[c]);
        }

        boolean isBetween(int a, int b, int c) {
            return sideOf(a, b, c) == 0 && spreadAt(c, a, b) < 0;
        }

        /** Whether two lines have just one point in common, and it is an end of neither. */
        boolean isCrossing(int a, int b, int c, int d) {
            return sideOf(a, b, c) * sideOf(a, b, d) < 0 && sideOf(c, d, a) * sideOf(c, d, b) < 0;
        }

        boolean isSound() {
            if (size < FEWEST_CORNERS) {
                return false;
            }
            for (int i = 0; i < size; i++) {
                if (isFoldedAt(i)) {
                    return false;
                }
                for (int j = i + 2; j < size; j++) {
                    if (next(j) != i && isTouching(i, j)) {
                        return false;
                    }
                }
            }
            return true;
        }

        private boolean isFoldedAt(int corner) {
            int a = previous(corner);
            int b = next(corner);
            return sideOf(a, b, corner) == 0 && spreadAt(corner, a, b) > 0;
        }

        /** Whether the fences from i and from j, that have no corner in common, meet. */
        private boolean isTouching(int i, int j) {
            int iEnd = next(i);
            int jEnd = next(j);
            int begin = sideOf(i, iEnd, j);
            int end = sideOf(i, iEnd, jEnd);
            if (begin == 0 && end == 0) {
                return isBetween(i, iEnd, j) || isBetween(i, iEnd, jEnd)
                        || isBetween(j, jEnd, i);
            }
            return begin * end <= 0 && sideOf(j, jEnd, i) * sideOf(j, jEnd, iEnd) <= 0;
        }

        /** Twice what is enclosed; below 0 if it goes to the right. */
        int signedArea() {
            return signedAreaOf(0, size - 1);
        }

        /** The same of the part with the corners first to last. */
        int signedAreaOf(int first, int last) {
            int sum = 0;
            for (int i = first; i <= last; i++) {
                int j = i < last ? i + 1 : first;
                sum += xs[i] * ys[j] - xs[j] * ys[i];
            }
            return sum;
        }

        int unlikenessOfSides(int a, int b) {
            int part = signedAreaOf(Math.min(a, b), Math.max(a, b));
            return Math.abs(signedArea() - 2 * part);
        }

        int fenceDots() {
            int dots = 0;
            for (int i = 0; i < size; i++) {
                int j = next(i);
                dots += commonDivisor(Math.abs(xs[i] - xs[j]), Math.abs(ys[i] - ys[j]));
            }
            return dots;
        }

        /** By Pick's rule. */
        int innerDots() {
            return (Math.abs(signedArea()) - fenceDots()) / 2 + 1;
        }

        int bendAt(int corner) {
            int side = sideOf(previous(corner), corner, next(corner));
            if (side == 0) {
                return FLAT;
            }
            return (side > 0) == (signedArea() > 0) ? STICKS_OUT : STICKS_IN;
        }

        int cornersThat(int bend) {
            int corners = 0;
            for (int i = 0; i < size; i++) {
                if (bendAt(i) == bend) {
                    corners++;
                }
            }
            return corners;
        }

        int widthBy(int a, int b) {
            int least = a * xs[0] + b * ys[0];
            int greatest = least;
            for (int i = 1; i < size; i++) {
                int far = a * xs[i] + b * ys[i];
                least = Math.min(least, far);
                greatest = Math.max(greatest, far);
            }
            return greatest - least;
        }

        /** Where a point is. It is told by twice its x and y, as midpoints may be on no dot. */
        int placeOf(int twiceX, int twiceY) {
            boolean isWithin = false;
            for (int i = 0; i < size; i++) {
                int j = next(i);
                int ax = 2 * xs[i] - twiceX;
                int ay = 2 * ys[i] - twiceY;
                int bx = 2 * xs[j] - twiceX;
                int by = 2 * ys[j] - twiceY;
                int side = ax * by - ay * bx;
                if (side == 0 && ax * bx + ay * by <= 0) {
                    return ON_FENCE;
                }
                // Each fence that is crossed on the way to the far right changes the side.
                if ((ay > 0) != (by > 0) && (side > 0) == (by > ay)) {
                    isWithin = !isWithin;
                }
            }
            return isWithin ? WITHIN : BEYOND;
        }

        /** True also if there are no corners. */
        boolean isInOneLine() {
            for (int i = 2; i < size; i++) {
                if (sideOf(0, 1, i) != 0) {
                    return false;
                }
            }
            return true;
        }

        /** Only if not all corners are in one line. */
        void hullInto(Outline hull) {
            int start = 0;
            for (int i = 1; i < size; i++) {
                if (xs[i] < xs[start] || (xs[i] == xs[start] && ys[i] < ys[start])) {
                    start = i;
                }
            }
            hull.size = 0;
            int at = start;
            for (int step = 0; step < size; step++) {
                hull.insert(hull.size, xs[at], ys[at]);
                at = rightmostFrom(at);
                if (at == start) {
                    return;
                }
            }
        }

        /** The corner that no other one is to the right of, of those in one line the farthest. */
        private int rightmostFrom(int at) {
            int best = next(at);
            for (int i = 0; i < size; i++) {
                if (i != at && i != best) {
                    int side = sideOf(at, best, i);
                    if (side < 0 || (side == 0 && isBetween(at, i, best))) {
                        best = i;
                    }
                }
            }
            return best;
        }

        boolean isSeen(int from, int to) {
            int at = from;
            for (int step = 0; step < size && at != to; step++) {
                int reached = nearestToward(at, to);
                if (isCrossed(at, reached) || placeOfMiddle(at, reached) == BEYOND) {
                    return false;
                }
                at = reached;
            }
            return true;
        }

        /** Strips end at two unlike corners; one and the same corner twice is none. */
        boolean isStrip(int a, int b) {
            if (a == b || next(a) == b || next(b) == a) {
                return false;
            }
            return nearestToward(a, b) == b && !isCrossed(a, b) && placeOfMiddle(a, b) == WITHIN;
        }

        /** The first corner on the line from one to another, at last that one. */
        private int nearestToward(int from, int to) {
            int nearest = to;
            for (int i = 0; i < size; i++) {
                if (isBetween(from, nearest, i)) {
                    nearest = i;
                }
            }
            return nearest;
        }

        private boolean isCrossed(int a, int b) {
            for (int i = 0; i < size; i++) {
                if (isCrossing(a, b, i, next(i))) {
                    return true;
                }
            }
            return false;
        }

        private int placeOfMiddle(int a, int b) {
            return placeOf(xs[a] + xs[b], ys[a] + ys[b]);
        }

        int longBy(int a, int b) {
            int x = xs[a] - xs[b];
            int y = ys[a] - ys[b];
            return x * x + y * y;
        }
    }

    /** Who sees whom in one sound field, as bits, found once for a call. */
    private static final class Sights {
        final int[] seen = new int[MOST_CORNERS];
        final int[] strips = new int[MOST_CORNERS];
        int size;

        void lookAt(Outline shape) {
            size = shape.size;
            for (int a = 0; a < size; a++) {
                seen[a] = 0;
                strips[a] = 0;
            }
            for (int a = 0; a < size; a++) {
                for (int b = a + 1; b < size; b++) {
                    boolean isStrip = shape.isStrip(a, b);
                    if (isStrip) {
                        strips[a] |= 1 << b;
                    }
                    if (isStrip || shape.isSeen(a, b)) {
                        seen[a] |= 1 << b;
                        seen[b] |= 1 << a;
                    }
                }
            }
        }

        /** Whether a lesser corner a and a greater one b make a strip. */
        boolean hasStrip(int a, int b) {
            return (strips[a] >> b & 1) == 1;
        }

        int stripNumber() {
            int number = 0;
            for (int a = 0; a < size; a++) {
                number += Integer.bitCount(strips[a]);
            }
            return number;
        }

        /** A set of corners, and all that these see. */
        private int withSeen(int set) {
            int all = set;
            for (int a = 0; a < size; a++) {
                if ((set >> a & 1) == 1) {
                    all |= seen[a];
                }
            }
            return all;
        }

        int fewestThatSeeAll() {
            int everyOne = (1 << size) - 1;
            int best = everyOne;
            for (int set = 1; set < everyOne; set++) {
                if (Integer.bitCount(set) < Integer.bitCount(best) && withSeen(set) == everyOne) {
                    best = set;
                }
            }
            return best;
        }

        int stepsBetween(int from, int to) {
            int reached = 1 << from;
            int steps = 0;
            while (steps < size && (reached >> to & 1) == 0) {
                reached = withSeen(reached);
                steps++;
            }
            return steps;
        }
    }

    /**
     * The cuts of one sound field in three-cornered ones. Row places are pairs of corners as told:
     * a row holds there what is known of the part from the lesser corner on to the greater one.
     */
    private static final class Cuts {
        final int[] ways = new int[TELL * MOST_CORNERS];
        final int[] leastLongs = new int[TELL * MOST_CORNERS];
        final long[] firstSets = new long[TELL * MOST_CORNERS];
        int size;

        void plan(Outline shape, Sights sights) {
            size = shape.size;
            for (int span = 1; span < size; span++) {
                for (int a = 0; a + span < size; a++) {
                    planPart(a, a + span, sights.hasStrip(a, a + span));
                    if (sights.hasStrip(a, a + span)) {
                        addStrip(a, a + span, shape.longBy(a, a + span));
                    }
                }
            }
        }

        /** All but the strip from a to b itself. */
        private void planPart(int a, int b, boolean isStrip) {
            int part = TELL * a + b;
            ways[part] = 0;
            leastLongs[part] = 0;
            firstSets[part] = 0;
            if (b == a + 1) {
                ways[part] = 1;
            } else if (isStrip || b - a == size - 1) {
                for (int tip = a + 1; tip < b; tip++) {
                    planTip(TELL * a + tip, TELL * tip + b, part);
                }
            }
        }

        private void addStrip(int a, int b, int longBy) {
            leastLongs[TELL * a + b] += longBy;
            firstSets[TELL * a + b] |= bitOf(a, b);
        }

        /** The three-cornered one at a part's own strip has its tip where two lesser parts meet. */
        private void planTip(int left, int right, int part) {
            int newWays = ways[left] * ways[right];
            if (newWays == 0) {
                return;
            }
            int newLong = leastLongs[left] + leastLongs[right];
            long newSet = firstSets[left] | firstSets[right];
            boolean isLess = ways[part] == 0 || newLong < leastLongs[part];
            if (isLess || (newLong == leastLongs[part] && newSet > firstSets[part])) {
                leastLongs[part] = newLong;
                firstSets[part] = newSet;
            }
            ways[part] += newWays;
        }

        /**
         * Strips told first have the higher bits: of two sets of as many strips the first one is
         * the greater number, and stays so when both get the same strips besides.
         */
        private static long bitOf(int a, int b) {
            int rank = a * (2 * MOST_CORNERS - 1 - a) / 2 + b - a - 1;
            return 1L << (62 - rank);
        }

        /** The place of the part from corner 0 on to the last one: all of the field. */
        private int whole() {
            return size - 1;
        }

        int allWays() {
            return ways[whole()];
        }

        int leastLong() {
            return leastLongs[whole()];
        }

        /** The i-th strip of the first of the least cuts, as told. */
        int stripOfFirst(int i) {
            int before = 0;
            for (int a = 0; a < size; a++) {
                for (int b = a + 1; b < size; b++) {
                    if ((firstSets[whole()] & bitOf(a, b)) != 0) {
                        if (before == i) {
                            return TELL * a + b;
                        }
                        before++;
                    }
                }
            }
            return NONE;
        }
    }

    /** The search for a map of whole numbers that brings one sound field onto another. */
    private static final class Likeness {
        final Outline arranged = new Outline();

        /** Whether there is such a map with the given a d less b c, 1 or -1. */
        boolean isFound(Outline from, Outline to, int sign) {
            if (from.size != to.size) {
                return false;
            }
            for (int start = 0; start < to.size; start++) {
                arrange(to, start, false);
                if (isMapped(from, sign)) {
                    return true;
                }
                arrange(to, start, true);
                if (isMapped(from, sign)) {
                    return true;
                }
            }
            return false;
        }

        /** A field told from another corner on, either way round. */
        private void arrange(Outline to, int start, boolean isBackward) {
            int at = start;
            arranged.size = 0;
            for (int i = 0; i < to.size; i++) {
                arranged.insert(i, to.xs[at], to.ys[at]);
                at = isBackward ? to.previous(at) : to.next(at);
            }
        }

        /** Whether a map brings each corner onto the arranged one of the same number. */
        private boolean isMapped(Outline from, int sign) {
            int third = 2;
            while (third < from.size && from.sideOf(0, 1, third) == 0) {
                third++;
            }
            if (third >= from.size) {
                return false;
            }
            if (arranged.sideOf(0, 1, third) != sign * from.sideOf(0, 1, third)) {
                return false;
            }
            return isRowMapped(from, arranged.xs, third) && isRowMapped(from, arranged.ys, third);
        }

        /**
         * Whether x' (or y', by its row) of all corners comes by whole numbers from x and y. Three
         * corners in no one line settle the two numbers, which are here told area times as much.
         */
        private static boolean isRowMapped(Outline from, int[] row, int third) {
            int ux = from.xs[1] - from.xs[0];
            int uy = from.ys[1] - from.ys[0];
            int vx = from.xs[third] - from.xs[0];
            int vy = from.ys[third] - from.ys[0];
            int u = row[1] - row[0];
            int v = row[third] - row[0];
            int area = ux * vy - uy * vx;
            int byX = u * vy - v * uy;
            int byY = v * ux - u * vx;
            if (area == 0 || byX % area != 0 || byY % area != 0) {
                return false;
            }
            for (int i = 2; i < from.size; i++) {
                int x = from.xs[i] - from.xs[0];
                int y = from.ys[i] - from.ys[0];
                if (byX * x + byY * y != area * (row[i] - row[0])) {
                    return false;
                }
            }
            return true;
        }
    }
}
