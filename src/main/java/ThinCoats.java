/**
 * A designer of thin coats that reckons with whole numbers alone.
 *
 * All rows are made with the object and used again by every call, for what a run makes is never
 * given back.
 */
public final class ThinCoats {
    public static final int NONE = -1;

    private static final int WRONG = -2;
    private static final int NO_LAYER = NONE - 9999;
    private static final int NO_NUMBER = NONE - 20000000;
    private static final long NO_PART = -9223372036854775808L;

    private static final int MOST_BYTES = 200;
    private static final int BYTES_OF_A_FEED = 20;
    private static final int MOST_LAYERS = 24;
    private static final int MOST_OPEN = 4;
    private static final int MOST_UNDONE = 10;
    private static final int MOST_CORNER_LAYERS = 8;
    private static final int MOST_WANTED_LAYERS = 3;
    private static final int BYTES_OF_A_LAYER = 4;

    private static final int MATERIALS = 6;
    private static final int MARKS = 4;
    private static final int THICKNESSES = 7;
    private static final int CHOICES = MATERIALS * THICKNESSES;
    private static final int ALL_MATERIALS = (1 << MATERIALS) - 1;
    private static final int ALL_MARKS = (1 << MARKS) - 1;
    private static final int ALL_THICKNESSES = (1 << THICKNESSES) - 1;

    private static final long FINEST = 10000000L;
    /** Euclid's way ends after less than a hundred turns for any two longs. */
    private static final int MOST_TURNS = 200;

    private static final int[] FIRST_U = {1, 3, 2, 4, 5, 3};
    private static final int[] FIRST_V = {1, 2, 1, 3, 2, 1};
    private static final int[] THICK_P = {1, 1, 2, 1, 3, 2, 3};
    private static final int[] THICK_Q = {1, 2, 1, 3, 1, 3, 2};

    private final Tape tape = new Tape();
    private final Layers layers = new Layers();
    private final History history = new History();
    private final Media media = new Media();
    private final Palette palette = new Palette();
    private final Search search = new Search();
    private final Ladder[] ladders = new Ladder[MARKS];
    private final Matrix middle = new Matrix();
    private final Tangent tangent = new Tangent();
    private final Fraction trial = new Fraction();
    private final Fraction best = new Fraction();
    private final Fraction greatest = new Fraction();
    private final int[] shown = new int[MOST_LAYERS * BYTES_OF_A_LAYER];
    private int shownLength = 0;

    public ThinCoats() {
        for (int m = 0; m < MARKS; m++) {
            ladders[m] = new Ladder();
        }
    }

    public int feed(int a, int b, int c, int d, int e) {
        if (tape.length + BYTES_OF_A_FEED > MOST_BYTES) {
            return NONE;
        }
        tape.append(a);
        tape.append(b);
        tape.append(c);
        tape.append(d);
        tape.append(e);
        return tape.length;
    }

    public boolean end(int n) {
        if (n < 0 || n > tape.length) {
            return false;
        }
        tape.length = n;
        return true;
    }

    public int stack() {
        if (!tape.parse()) {
            return NONE;
        }
        history.keep(layers, false);
        layers.copyOf(tape.parsed);
        tape.length = 0;
        return layers.count;
    }

    public int fault(int what) {
        switch (what) {
            case 0: return tape.fault;
            case 1: return tape.place;
            default: return NONE;
        }
    }

    public boolean index(int material, int u, int v) {
        if (!isMaterial(material) || u < 1 || u > 9 || v < 1 || v > 9) {
            return false;
        }
        return media.changeIndex(material, u, v);
    }

    public boolean between(int from, int ground) {
        if (!isMaterial(from) || !isMaterial(ground)) {
            return false;
        }
        if (from == media.from && ground == media.ground) {
            return false;
        }
        media.from = from;
        media.ground = ground;
        return true;
    }

    public int material(int material, int what) {
        if (!isMaterial(material)) {
            return NONE;
        }
        switch (what) {
            case 0: return media.u[material];
            case 1: return media.v[material];
            case 2: return material == media.from ? 1 : 0;
            case 3: return material == media.ground ? 1 : 0;
            case 4: return layers.countOfMaterial(material);
            default: return NONE;
        }
    }

    public int layer(int i, int what) {
        if (i == NONE) {
            return layers.count;
        }
        if (!layers.has(i) || what < 0 || what > 8) {
            return NO_LAYER;
        }
        if (what == 0) {
            return materialOf(layers.codes[i]);
        }
        // From 1 on each mark has two numbers: P, then Q.
        tangent.ofCode(layers.codes[i]);
        tangent.raise((what + 1) / 2);
        return (int) (what % 2 == 1 ? tangent.p : tangent.q);
    }

    public int put(int i, int material, int p, int q) {
        if (i < 0 || i > layers.count || !isMaterial(material) || !isTangent(p, q)) {
            return NONE;
        }
        if (layers.count >= MOST_LAYERS) {
            return NONE;
        }
        history.keep(layers, false);
        layers.insert(i, codeOf(material, p, q));
        return layers.count;
    }

    public int cut(int i) {
        if (!layers.has(i)) {
            return NONE;
        }
        history.keep(layers, false);
        layers.remove(i);
        return layers.count;
    }

    public boolean turn() {
        if (media.from == media.ground && layers.isSameReversed()) {
            return false;
        }
        history.keep(layers, true);
        layers.reverse();
        media.swapSides();
        return true;
    }

    public boolean undo() {
        if (history.count == 0) {
            return false;
        }
        if (history.takeBack(layers)) {
            media.swapSides();
        }
        return true;
    }

    public int matrix(int n, int mark, int i) {
        int many = n == NONE ? layers.count : n;
        if (!isBeginning(many) || !isMark(mark) || i < 0 || i > 3) {
            return NO_NUMBER;
        }
        Matrix row = beginning(many, mark);
        return row.tooFine ? NO_NUMBER : (int) row.number(i);
    }

    public long light(int n, int mark, int what) {
        int many = n == NONE ? layers.count : n;
        if (!isBeginning(many) || !isMark(mark) || what < 0 || what > 3) {
            return WRONG;
        }
        Matrix row = beginning(many, mark);
        if (row.tooFine) {
            return NONE;
        }
        if (what < 2) {
            media.measureBack(row, trial);
        } else {
            media.measureThrough(row, trial);
        }
        trial.lower();
        return what % 2 == 0 ? trial.above : trial.below;
    }

    public int share(int mark) {
        if (!isMark(mark)) {
            return WRONG;
        }
        Matrix row = beginning(layers.count, mark);
        if (row.tooFine) {
            return NONE;
        }
        media.measureBack(row, trial);
        trial.lower();
        return trial.below > 0 ? bitsOfFloat((float) trial.above / (float) trial.below) : NONE;
    }

    public long through(int mark) {
        if (!isMark(mark)) {
            return WRONG;
        }
        Matrix row = beginning(layers.count, mark);
        if (row.tooFine) {
            return NONE;
        }
        media.measureThrough(row, trial);
        trial.lower();
        return trial.below > 0 ? bitsOfDouble((double) trial.above / (double) trial.below) : NONE;
    }

    public long admittance(int n, int mark, int what) {
        int many = n == NONE ? layers.count : n;
        if (!isBeginning(many) || !isMark(mark) || what < 0 || what > 3) {
            return NO_PART;
        }
        Matrix row = beginning(many, mark);
        if (row.tooFine) {
            return NO_PART;
        }
        media.measureAdmittance(row, what >= 2, trial);
        trial.lower();
        return what % 2 == 0 ? trial.above : trial.below;
    }

    public int marks(int what) {
        if (what < 0 || what > 2) {
            return NONE;
        }
        int found = 0;
        for (int mark = 1; mark <= MARKS; mark++) {
            if (isOfKind(beginning(layers.count, mark), what)) {
                found |= 1 << (mark - 1);
            }
        }
        return found;
    }

    public int extreme(int what) {
        if (what < 0 || what > 1) {
            return NONE;
        }
        int found = NONE;
        for (int mark = 1; mark <= MARKS; mark++) {
            Matrix row = beginning(layers.count, mark);
            if (row.tooFine) {
                continue;
            }
            media.measureBack(row, trial);
            int order = found == NONE ? 0 : trial.compareWith(best);
            if (found == NONE || (what == 0 ? order < 0 : order > 0)) {
                found = mark;
                best.copyOf(trial);
            }
        }
        return found;
    }

    public int below(int mark, int above, int below) {
        if (!isMark(mark) || above < 0 || above > 1000 || below < 1 || below > 1000) {
            return NONE;
        }
        ladders[0].climb(layers, media, mark, layers.count);
        best.set(above, below);
        int many = 0;
        for (int n = 0; n <= layers.count; n++) {
            Matrix row = ladders[0].ahead[n];
            if (row.tooFine) {
                break;
            }
            media.measureBack(row, trial);
            if (trial.compareWith(best) <= 0) {
                many++;
            }
        }
        return many;
    }

    public long worst(int mark, int s, int what) {
        if (!isMark(mark) || !isSlip(s) || layers.count > MOST_CORNER_LAYERS || what < 0 || what > 2) {
            return WRONG;
        }
        int bits = findWorstCorner(mark, s);
        if (bits == NONE || what == 0) {
            return bits;
        }
        best.lower();
        return what == 1 ? best.above : best.below;
    }

    public long corner(int mark, int s, int bits, int what) {
        if (!isMark(mark) || !isSlip(s) || layers.count > MOST_CORNER_LAYERS || what < 0 || what > 1) {
            return WRONG;
        }
        if (bits < 0 || bits >= 1 << layers.count) {
            return WRONG;
        }
        ladders[0].climbSlipped(layers, media, mark, s, bits);
        Matrix row = ladders[0].whole();
        if (row.tooFine) {
            return NONE;
        }
        media.measureBack(row, trial);
        trial.lower();
        return what == 0 ? trial.above : trial.below;
    }

    public int tender(int mark, int s) {
        if (!isMark(mark) || !isSlip(s)) {
            return WRONG;
        }
        Ladder ladder = ladders[0];
        ladder.climb(layers, media, mark, layers.count);
        if (ladder.whole().tooFine) {
            return NONE;
        }
        // All grow from the same share, so what grows most is what becomes greatest.
        media.measureBack(ladder.whole(), best);
        int found = NONE;
        for (int i = 0; i < layers.count; i++) {
            for (int side = 0; side < 2; side++) {
                tangent.ofCode(layers.codes[i]);
                tangent.slip(s, side == 1);
                tangent.raise(mark);
                middle.ofLayer(media, materialOf(layers.codes[i]), tangent);
                Matrix row = ladder.changed(i, middle, i + 1);
                if (row.tooFine) {
                    return NONE;
                }
                media.measureBack(row, trial);
                if (trial.compareWith(best) > 0) {
                    best.copyOf(trial);
                    found = i;
                }
            }
        }
        return found;
    }

    public int wanted(int marks, int materials, int thicknesses, int n) {
        if (!areSets(marks, materials, thicknesses) || n < 1 || n > MOST_WANTED_LAYERS) {
            return WRONG;
        }
        palette.prepare(media, marks, materials, thicknesses);
        for (int length = 1; length <= n; length++) {
            if (search.seek(palette, media, 0, length, true) > 0) {
                history.keep(layers, false);
                layers.count = 0;
                for (int level = 0; level < length; level++) {
                    layers.insert(level, codeOfChoice(search.chosen[level]));
                }
                return length;
            }
        }
        return NONE;
    }

    public int ways(int marks, int materials, int thicknesses, int n) {
        if (!areSets(marks, materials, thicknesses) || n < 1 || n > MOST_WANTED_LAYERS) {
            return WRONG;
        }
        palette.prepare(media, marks, materials, thicknesses);
        return search.seek(palette, media, 0, n, false);
    }

    public int tune(int i, int mark) {
        if (!layers.has(i) || !isMark(mark)) {
            return WRONG;
        }
        int material = materialOf(layers.codes[i]);
        palette.prepare(media, 1 << (mark - 1), 1 << material, ALL_THICKNESSES);
        ladders[0].climb(layers, media, mark, layers.count);
        int found = NONE;
        for (int t = 0; t < THICKNESSES; t++) {
            Matrix own = palette.matrixOf(mark - 1, material * THICKNESSES + t);
            Matrix row = ladders[0].changed(i, own, i + 1);
            if (row.tooFine) {
                continue;
            }
            media.measureBack(row, trial);
            if (found == NONE || trial.compareWith(best) < 0) {
                found = t;
                best.copyOf(trial);
            }
        }
        if (found != NONE) {
            history.keep(layers, false);
            layers.codes[i] = codeOf(material, THICK_P[found], THICK_Q[found]);
        }
        return found;
    }

    public int add(int marks, int materials, int thicknesses) {
        if (!areSets(marks, materials, thicknesses)) {
            return WRONG;
        }
        if (layers.count >= MOST_LAYERS) {
            return NONE;
        }
        palette.prepare(media, marks, materials, thicknesses);
        boolean bounded = measureGreatest(marks);
        int place = NONE;
        int choice = NONE;
        for (int at = 0; at <= layers.count; at++) {
            for (int k = 0; k < palette.count; k++) {
                if (isBetterWith(at, palette.choices[k], marks, bounded)) {
                    bounded = true;
                    best.copyOf(greatest);
                    place = at;
                    choice = palette.choices[k];
                }
            }
        }
        if (place != NONE) {
            history.keep(layers, false);
            layers.insert(place, codeOfChoice(choice));
        }
        return place;
    }

    public int merge(int i) {
        if (!layers.has(i) || i + 1 >= layers.count) {
            return NONE;
        }
        int first = layers.codes[i];
        int second = layers.codes[i + 1];
        if (materialOf(first) != materialOf(second)) {
            return NONE;
        }
        int above = pOf(first) * qOf(second) + pOf(second) * qOf(first);
        int below = qOf(first) * qOf(second) - pOf(first) * pOf(second);
        int sign = below < 0 ? -1 : 1;
        tangent.set(sign * above, sign * below);
        if (!isTangent(tangent.p, tangent.q)) {
            return NONE;
        }
        history.keep(layers, false);
        layers.codes[i] = codeOf(materialOf(first), (int) tangent.p, (int) tangent.q);
        layers.remove(i + 1);
        return layers.count;
    }

    public int period(int what) {
        if (what < 0 || what > 1) {
            return NONE;
        }
        for (int n = 1; n <= layers.count; n++) {
            if (layers.count % n == 0 && layers.repeatsAfter(n)) {
                return what == 0 ? n : layers.count / n;
            }
        }
        return 0;
    }

    public int show() {
        shownLength = 0;
        for (int i = 0; i < layers.count; i++) {
            int p = pOf(layers.codes[i]);
            int q = qOf(layers.codes[i]);
            showByte('A' + materialOf(layers.codes[i]));
            if (q == 0) {
                showByte('h');
            } else if (p != 1 || q != 1) {
                showByte('0' + p);
                showByte('/');
                showByte('0' + q);
            }
        }
        return shownLength;
    }

    public int out(int i) {
        return i < 0 || i >= shownLength ? NONE : shown[i];
    }

    public int spare(int marks) {
        if ((marks & ALL_MARKS) == 0) {
            return WRONG;
        }
        int found = (1 << layers.count) - 1;
        for (int mark = 1; mark <= MARKS; mark++) {
            if (isInSet(marks, mark - 1)) {
                found &= spareAt(mark, found);
            }
        }
        return found;
    }

    public int look(int what) {
        switch (what) {
            case 0: return layers.count;
            case 1: return layers.materialBits();
            case 2: return layers.isSameReversed() ? 1 : 0;
            case 3: return history.count;
            case 4: return tape.length;
            case 5: return layers.countOfTangent(1, 0);
            case 6: return layers.countOfTangent(1, 1);
            default: return NONE;
        }
    }

    private static boolean isMaterial(int material) {
        return material >= 0 && material < MATERIALS;
    }

    private static boolean isMark(int mark) {
        return mark >= 1 && mark <= MARKS;
    }

    private static boolean isSlip(int s) {
        return s >= 2 && s <= 12;
    }

    private static boolean isTangent(long p, long q) {
        boolean half = p == 1 && q == 0;
        return half || (p >= 0 && p <= 6 && q >= 1 && q <= 6);
    }

    private static boolean isInSet(int set, int bit) {
        return (set >> bit & 1) != 0;
    }

    /** Bits that stand for nothing are passed over: a set can be if it has one that counts. */
    private static boolean areSets(int marks, int materials, int thicknesses) {
        return (marks & ALL_MARKS) != 0 && (materials & ALL_MATERIALS) != 0
            && (thicknesses & ALL_THICKNESSES) != 0;
    }

    private boolean isBeginning(int many) {
        return many >= 0 && many <= layers.count;
    }

    /** A layer is held as one number: six bits of tangent below its material. */
    private static int codeOf(int material, int p, int q) {
        long divisor = commonDivisor(p, q);
        int by = divisor > 1 ? (int) divisor : 1;
        return material << 6 | p / by << 3 | q / by;
    }

    private static int codeOfChoice(int choice) {
        int thickness = choice % THICKNESSES;
        return codeOf(choice / THICKNESSES, THICK_P[thickness], THICK_Q[thickness]);
    }

    private static int materialOf(int code) {
        return code >> 6;
    }

    private static int pOf(int code) {
        return code >> 3 & 7;
    }

    private static int qOf(int code) {
        return code & 7;
    }

    private static long commonDivisor(long first, long second) {
        long a = first < 0 ? -first : first;
        long b = second < 0 ? -second : second;
        for (int turn = 0; turn < MOST_TURNS && b != 0; turn++) {
            long rest = a % b;
            a = b;
            b = rest;
        }
        return a;
    }

    /** The bits of a float that is 0 or at least 2 to the -63rd, and 1 at most, as all shares are. */
    private static int bitsOfFloat(float share) {
        if (share <= 0f) {
            return 0;
        }
        float scaled = share;
        int exponent = 127;
        for (int turn = 0; turn < MOST_TURNS && scaled < 1f; turn++) {
            scaled = scaled * 2f;
            exponent--;
        }
        return exponent << 23 | (int) ((scaled - 1f) * 8388608f);
    }

    /** The bits of a double of the same kind. */
    private static long bitsOfDouble(double share) {
        if (share <= 0.0) {
            return 0L;
        }
        double scaled = share;
        long exponent = 1023L;
        for (int turn = 0; turn < MOST_TURNS && scaled < 1.0; turn++) {
            scaled = scaled * 2.0;
            exponent--;
        }
        return exponent << 52 | (long) ((scaled - 1.0) * 4503599627370496.0);
    }

    private Matrix beginning(int many, int mark) {
        ladders[0].climb(layers, media, mark, many);
        return ladders[0].whole();
    }

    private boolean isOfKind(Matrix row, int what) {
        if (what == 2 || row.tooFine) {
            return what == 2 && row.tooFine;
        }
        if (what == 0) {
            media.measureBack(row, trial);
        } else {
            media.measureThrough(row, trial);
        }
        return trial.above == 0;
    }

    /** The bits of the worst corner, with its share as the best one; NONE if a corner is too fine. */
    private int findWorstCorner(int mark, int s) {
        int many = layers.count;
        Ladder lesser = ladders[0];
        Ladder greater = ladders[1];
        lesser.climbSlipped(layers, media, mark, s, 0);
        greater.climbSlipped(layers, media, mark, s, (1 << many) - 1);
        int worst = NONE;
        // The first layer is the highest bit of the turn, so that few beginnings change from turn to turn.
        for (int turn = 0; turn < 1 << many; turn++) {
            int first = turn == 0 ? many : many - 1 - Integer.numberOfTrailingZeros(turn);
            lesser.changeTail(greater, Math.max(first, 0), turn);
            if (lesser.whole().tooFine) {
                return NONE;
            }
            int bits = many == 0 ? 0 : Integer.reverse(turn) >>> (32 - many);
            media.measureBack(lesser.whole(), trial);
            int order = worst == NONE ? 1 : trial.compareWith(best);
            if (order > 0 || (order == 0 && bits < worst)) {
                worst = bits;
                best.copyOf(trial);
            }
        }
        return worst;
    }

    /** Climbs at each mark of the set; the greatest share becomes the best one; false if one is too fine. */
    private boolean measureGreatest(int marks) {
        boolean bounded = true;
        best.set(0, 1);
        for (int m = 0; m < MARKS; m++) {
            if (!isInSet(marks, m)) {
                continue;
            }
            ladders[m].climb(layers, media, m + 1, layers.count);
            if (ladders[m].whole().tooFine) {
                bounded = false;
                continue;
            }
            media.measureBack(ladders[m].whole(), trial);
            if (trial.compareWith(best) > 0) {
                best.copyOf(trial);
            }
        }
        return bounded;
    }

    /** Whether with one layer more the greatest share (kept as greatest) is less than the best one. */
    private boolean isBetterWith(int place, int choice, int marks, boolean bounded) {
        greatest.set(0, 1);
        if (bounded && best.above == 0) {
            return false;
        }
        for (int m = 0; m < MARKS; m++) {
            if (!isInSet(marks, m)) {
                continue;
            }
            Matrix row = ladders[m].changed(place, palette.matrixOf(m, choice), place);
            if (row.tooFine) {
                return false;
            }
            media.measureBack(row, trial);
            if (bounded && trial.compareWith(best) >= 0) {
                return false;
            }
            if (trial.compareWith(greatest) > 0) {
                greatest.copyOf(trial);
            }
        }
        return true;
    }

    private int spareAt(int mark, int asked) {
        Ladder ladder = ladders[0];
        ladder.climb(layers, media, mark, layers.count);
        if (ladder.whole().tooFine) {
            return 0;
        }
        media.measureBack(ladder.whole(), best);
        int found = 0;
        for (int i = 0; i < layers.count; i++) {
            if (!isInSet(asked, i)) {
                continue;
            }
            Matrix row = ladder.changed(i, null, i + 1);
            if (row.tooFine) {
                continue;
            }
            media.measureBack(row, trial);
            if (trial.compareWith(best) == 0) {
                found |= 1 << i;
            }
        }
        return found;
    }

    private void showByte(int value) {
        if (shownLength < shown.length) {
            shown[shownLength] = value;
            shownLength++;
        }
    }

    /** A share of light, or a part of an admittance: any number above, more than 0 below. */
    private static final class Fraction {
        private long above = 0;
        private long below = 1;

        void set(long newAbove, long newBelow) {
            above = newAbove;
            below = newBelow;
        }

        void copyOf(Fraction other) {
            above = other.above;
            below = other.below;
        }

        void lower() {
            long divisor = commonDivisor(above, below);
            if (divisor > 1) {
                above /= divisor;
                below /= divisor;
            }
        }

        /**
         * Less than, 0 or more than 0; both are at least 0. A product across could be too large for a
         * long, so the two are compared by their wholes and, where those agree, by their rests turned over.
         */
        int compareWith(Fraction other) {
            long a = above;
            long b = below;
            long c = other.above;
            long d = other.below;
            for (int turn = 0; turn < MOST_TURNS && b > 0 && d > 0; turn++) {
                long whole = a / b;
                long otherWhole = c / d;
                if (whole != otherWhole) {
                    return whole < otherWhole ? -1 : 1;
                }
                long rest = a % b;
                long otherRest = c % d;
                if (rest == 0 || otherRest == 0) {
                    return Long.compare(rest, otherRest);
                }
                a = d;
                c = b;
                b = otherRest;
                d = rest;
            }
            return 0;
        }
    }

    /** The tangent of half a phase: p by q. */
    private static final class Tangent {
        private long p = 0;
        private long q = 1;

        void set(long above, long below) {
            long divisor = commonDivisor(above, below);
            p = divisor > 1 ? above / divisor : above;
            q = divisor > 1 ? below / divisor : below;
        }

        void ofCode(int code) {
            p = pOf(code);
            q = qOf(code);
        }

        void slip(int s, boolean greater) {
            if (q == 0) {
                return;
            }
            long above = greater ? p * s + q : p * s - q;
            set(above < 0 ? 0 : above, q * s);
        }

        /** Becomes the tangent of so many times its angle. */
        void raise(int mark) {
            long real = q;
            long imaginary = p;
            for (int k = 1; k < mark; k++) {
                long nextReal = real * q - imaginary * p;
                imaginary = real * p + imaginary * q;
                real = nextReal;
            }
            int sign = real < 0 || (real == 0 && imaginary < 0) ? -1 : 1;
            set(sign * imaginary, sign * real);
        }
    }

    /** The matrix of a layer or of a row; what it holds counts only where it is not too fine. */
    private static final class Matrix {
        private long a = 1;
        private long b = 0;
        private long c = 0;
        private long d = 1;
        private boolean tooFine = false;

        void toUnit() {
            a = 1;
            b = 0;
            c = 0;
            d = 1;
            tooFine = false;
        }

        void copyOf(Matrix other) {
            a = other.a;
            b = other.b;
            c = other.c;
            d = other.d;
            tooFine = other.tooFine;
        }

        void ofLayer(Media media, int material, Tangent tangent) {
            long u = media.u[material];
            long v = media.v[material];
            long p = tangent.p;
            long q = tangent.q;
            a = u * v * (q * q - p * p);
            b = 2 * v * v * p * q;
            c = 2 * u * u * p * q;
            d = a;
            settle();
        }

        /** Becomes the product of a row (which may be this one) and a layer behind it. */
        void ofRowAndLayer(Matrix row, Matrix layer) {
            if (row.tooFine || layer.tooFine) {
                tooFine = true;
                return;
            }
            long newA = row.a * layer.a - row.b * layer.c;
            long newB = row.a * layer.b + row.b * layer.d;
            long newC = row.c * layer.a + row.d * layer.c;
            long newD = row.d * layer.d - row.c * layer.b;
            a = newA;
            b = newB;
            c = newC;
            d = newD;
            settle();
        }

        long number(int i) {
            switch (i) {
                case 0: return a;
                case 1: return b;
                case 2: return c;
                default: return d;
            }
        }

        private void settle() {
            long divisor = commonDivisor(commonDivisor(commonDivisor(a, b), c), d);
            if (divisor > 1) {
                a /= divisor;
                b /= divisor;
                c /= divisor;
                d /= divisor;
            }
            tooFine = isBeyond(a) || isBeyond(b) || isBeyond(c) || isBeyond(d);
        }

        private static boolean isBeyond(long value) {
            return value > FINEST || value < -FINEST;
        }
    }

    /** The materials' indices (in lowest terms), where light comes from and what it goes to. */
    private static final class Media {
        private final int[] u = FIRST_U.clone();
        private final int[] v = FIRST_V.clone();
        private int from = 0;
        private int ground = 1;

        boolean changeIndex(int material, int newU, int newV) {
            if (newU * v[material] == newV * u[material]) {
                return false;
            }
            long divisor = commonDivisor(newU, newV);
            int by = divisor > 1 ? (int) divisor : 1;
            u[material] = newU / by;
            v[material] = newV / by;
            return true;
        }

        void swapSides() {
            int old = from;
            from = ground;
            ground = old;
        }

        void measureBack(Matrix row, Fraction share) {
            long real = (long) u[from] * v[ground] * row.a - (long) v[from] * u[ground] * row.d;
            long imaginary = (long) u[from] * u[ground] * row.b - (long) v[from] * v[ground] * row.c;
            share.set(real * real + imaginary * imaginary, whole(row));
        }

        void measureThrough(Matrix row, Fraction share) {
            long sides = 4L * u[from] * v[from] * u[ground] * v[ground];
            share.set(sides * (row.a * row.d + row.b * row.c), whole(row));
        }

        void measureAdmittance(Matrix row, boolean imaginary, Fraction part) {
            long bReal = v[ground] * row.a;
            long bImaginary = u[ground] * row.b;
            long cReal = u[ground] * row.d;
            long cImaginary = v[ground] * row.c;
            long above = imaginary ? bReal * cImaginary - bImaginary * cReal
                : bReal * cReal + bImaginary * cImaginary;
            part.set(above, bReal * bReal + bImaginary * bImaginary);
        }

        /** Whether a row and a layer behind it throw nothing back; asked before the dear common divisor. */
        boolean throwsNothingBack(Matrix row, Matrix layer) {
            long a = row.a * layer.a - row.b * layer.c;
            long d = row.d * layer.d - row.c * layer.b;
            if (u[from] * v[ground] * a != v[from] * u[ground] * d) {
                return false;
            }
            long b = row.a * layer.b + row.b * layer.d;
            long c = row.c * layer.a + row.d * layer.c;
            return u[from] * u[ground] * b == v[from] * v[ground] * c;
        }

        private long whole(Matrix row) {
            long real = (long) u[from] * v[ground] * row.a + (long) v[from] * u[ground] * row.d;
            long imaginary = (long) u[from] * u[ground] * row.b + (long) v[from] * v[ground] * row.c;
            return real * real + imaginary * imaginary;
        }
    }

    /** The layers of a stack, each as one number. */
    private static final class Layers {
        private final int[] codes = new int[MOST_LAYERS];
        private int count = 0;

        boolean has(int i) {
            return i >= 0 && i < count;
        }

        void copyOf(Layers other) {
            count = other.count;
            System.arraycopy(other.codes, 0, codes, 0, count);
        }

        void insert(int place, int code) {
            if (place < 0 || place > count || count >= MOST_LAYERS) {
                return;
            }
            for (int i = count; i > place; i--) {
                codes[i] = codes[i - 1];
            }
            codes[place] = code;
            count++;
        }

        void remove(int place) {
            if (!has(place)) {
                return;
            }
            for (int i = place; i + 1 < count; i++) {
                codes[i] = codes[i + 1];
            }
            count--;
        }

        void reverse() {
            for (int i = 0; i < count / 2; i++) {
                int other = count - 1 - i;
                int code = codes[i];
                codes[i] = codes[other];
                codes[other] = code;
            }
        }

        boolean isSameReversed() {
            for (int i = 0; i < count / 2; i++) {
                if (codes[i] != codes[count - 1 - i]) {
                    return false;
                }
            }
            return true;
        }

        boolean repeatsAfter(int n) {
            for (int i = 0; i + n < count; i++) {
                if (codes[i] != codes[i + n]) {
                    return false;
                }
            }
            return true;
        }

        int countOfMaterial(int material) {
            int many = 0;
            for (int i = 0; i < count; i++) {
                many += materialOf(codes[i]) == material ? 1 : 0;
            }
            return many;
        }

        int countOfTangent(int p, int q) {
            int many = 0;
            for (int i = 0; i < count; i++) {
                many += pOf(codes[i]) == p && qOf(codes[i]) == q ? 1 : 0;
            }
            return many;
        }

        int materialBits() {
            int bits = 0;
            for (int i = 0; i < count; i++) {
                bits |= 1 << materialOf(codes[i]);
            }
            return bits;
        }
    }

    /** The stacks that the latest changes left, in a ring. */
    private static final class History {
        private final Layers[] kept = new Layers[MOST_UNDONE];
        private final boolean[] turned = new boolean[MOST_UNDONE];
        private int next = 0;
        private int count = 0;

        History() {
            for (int i = 0; i < MOST_UNDONE; i++) {
                kept[i] = new Layers();
            }
        }

        void keep(Layers layers, boolean byTurn) {
            kept[next].copyOf(layers);
            turned[next] = byTurn;
            next = (next + 1) % MOST_UNDONE;
            count = Math.min(count + 1, MOST_UNDONE);
        }

        /** The latest stack comes back: whether it was turned round. */
        boolean takeBack(Layers layers) {
            if (count == 0) {
                return false;
            }
            next = (next + MOST_UNDONE - 1) % MOST_UNDONE;
            count--;
            layers.copyOf(kept[next]);
            return turned[next];
        }
    }

    /** The tape, and how its text is read. */
    private static final class Tape {
        private static final int END = -1;

        private final int[] bytes = new int[MOST_BYTES];
        private int length = 0;
        private int fault = 0;
        private int place = NONE;

        private final Layers parsed = new Layers();
        private final int[] openTimes = new int[MOST_OPEN];
        private final int[] openStart = new int[MOST_OPEN];
        private int open = 0;
        private int at = 0;
        private int value = 0;
        private int outerItem = 0;
        private int overflow = NONE;

        void append(int fourBytes) {
            for (int shift = 24; shift >= 0 && length < MOST_BYTES; shift -= 8) {
                bytes[length] = fourBytes >> shift & 255;
                length++;
            }
        }

        /** Reads the whole text into the layers parsed: whether it is without fault. */
        boolean parse() {
            fault = 0;
            place = NONE;
            parsed.count = 0;
            open = 0;
            at = 0;
            overflow = NONE;
            skipBlanks();
            for (int turn = 0; turn <= MOST_BYTES && fault == 0 && at < length; turn++) {
                readOne();
                skipBlanks();
            }
            if (fault == 0 && open > 0) {
                fail(1, at);
            }
            if (fault == 0 && overflow != NONE) {
                fail(4, overflow);
            }
            return fault == 0;
        }

        private void readOne() {
            int next = peek();
            if (open == 0) {
                outerItem = at;
            }
            if (next >= 'A' && next < 'A' + MATERIALS) {
                readLayer(next - 'A');
            } else if (isDigit(next)) {
                readOpening();
            } else if (next == ')' && open > 0) {
                closeGroup();
            } else {
                fail(1, at);
            }
        }

        private void readLayer(int material) {
            at++;
            skipBlanks();
            if (peek() == 'h') {
                at++;
                lay(codeOf(material, 1, 0));
            } else if (isDigit(peek())) {
                readThickOrNone(material);
            } else {
                lay(codeOf(material, 1, 1));
            }
        }

        /** A number behind a material is of its thickness, or of the next item's repetition. */
        private void readThickOrNone(int material) {
            int numberAt = at;
            readNumber();
            skipBlanks();
            if (peek() == '(') {
                at = numberAt;
                lay(codeOf(material, 1, 1));
                return;
            }
            if (peek() != '/') {
                fail(1, at);
                return;
            }
            if (value > 6) {
                fail(2, numberAt);
                return;
            }
            int p = value;
            at++;
            skipBlanks();
            if (!isDigit(peek())) {
                fail(1, at);
                return;
            }
            numberAt = at;
            readNumber();
            if (value < 1 || value > 6) {
                fail(2, numberAt);
                return;
            }
            lay(codeOf(material, p, value));
        }

        private void readOpening() {
            int numberAt = at;
            readNumber();
            skipBlanks();
            if (peek() == '(') {
                openGroup(numberAt);
            } else if (peek() == '/' && value > 6) {
                // The number's place comes ahead of that of the "/", which can't stand here either.
                fail(2, numberAt);
            } else {
                fail(1, at);
            }
        }

        private void openGroup(int numberAt) {
            if (value < 1 || value > 9) {
                fail(2, numberAt);
                return;
            }
            if (open >= MOST_OPEN) {
                fail(3, at);
                return;
            }
            openTimes[open] = value;
            openStart[open] = parsed.count;
            open++;
            at++;
        }

        private void closeGroup() {
            if (open < 1 || open > MOST_OPEN) {
                return;
            }
            at++;
            open--;
            int start = openStart[open];
            int end = parsed.count;
            for (int time = 1; time < openTimes[open]; time++) {
                for (int i = start; i < end; i++) {
                    lay(parsed.codes[i]);
                }
            }
        }

        private void lay(int code) {
            if (parsed.count < MOST_LAYERS) {
                parsed.insert(parsed.count, code);
            } else if (overflow == NONE) {
                overflow = outerItem;
            }
        }

        /** Its value is held down, as it is too great anyway. */
        private void readNumber() {
            value = 0;
            for (int turn = 0; turn < MOST_BYTES && isDigit(peek()); turn++) {
                value = Math.min(value * 10 + peek() - '0', 1000);
                at++;
            }
        }

        private void skipBlanks() {
            for (int turn = 0; turn < MOST_BYTES && (peek() == ' ' || peek() == '\n'); turn++) {
                at++;
            }
        }

        private int peek() {
            return at >= 0 && at < length && at < MOST_BYTES ? bytes[at] : END;
        }

        private static boolean isDigit(int value) {
            return value >= '0' && value <= '9';
        }

        private void fail(int newFault, int newPlace) {
            fault = newFault;
            place = newPlace;
        }
    }

    /** The matrices at one mark, of each layer by itself and of each beginning. */
    private static final class Ladder {
        private final Matrix[] own = new Matrix[MOST_LAYERS];
        private final Matrix[] ahead = new Matrix[MOST_LAYERS + 1];
        private final Matrix row = new Matrix();
        private final Tangent tangent = new Tangent();
        private int count = 0;

        Ladder() {
            for (int i = 0; i < MOST_LAYERS; i++) {
                own[i] = new Matrix();
            }
            for (int i = 0; i <= MOST_LAYERS; i++) {
                ahead[i] = new Matrix();
            }
        }

        void climb(Layers layers, Media media, int mark, int many) {
            count = Math.max(0, Math.min(many, layers.count));
            ahead[0].toUnit();
            for (int i = 0; i < count; i++) {
                tangent.ofCode(layers.codes[i]);
                step(i, layers, media, mark);
            }
        }

        /** Each layer slips: to the greater side where its bit is set. */
        void climbSlipped(Layers layers, Media media, int mark, int s, int bits) {
            count = layers.count;
            ahead[0].toUnit();
            for (int i = 0; i < count; i++) {
                tangent.ofCode(layers.codes[i]);
                tangent.slip(s, isInSet(bits, i));
                step(i, layers, media, mark);
            }
        }

        private void step(int i, Layers layers, Media media, int mark) {
            tangent.raise(mark);
            own[i].ofLayer(media, materialOf(layers.codes[i]), tangent);
            ahead[i + 1].ofRowAndLayer(ahead[i], own[i]);
        }

        Matrix whole() {
            return ahead[count];
        }

        /** The layers from the first one on become this ladder's or another's, by the bits of a turn. */
        void changeTail(Ladder other, int first, int turn) {
            for (int i = first; i < count; i++) {
                Matrix layer = isInSet(turn, count - 1 - i) ? other.own[i] : own[i];
                ahead[i + 1].ofRowAndLayer(ahead[i], layer);
            }
        }

        /** The row of so many first layers, a middle one (or none), and the layers from the next one on. */
        Matrix changed(int kept, Matrix middle, int next) {
            row.copyOf(ahead[kept]);
            if (middle != null) {
                row.ofRowAndLayer(row, middle);
            }
            for (int i = next; i < count && !row.tooFine; i++) {
                row.ofRowAndLayer(row, own[i]);
            }
            return row;
        }
    }

    /** The layers that may be chosen (material, then thickness), with their matrices at the marks of a set. */
    private static final class Palette {
        private final Matrix[] matrices = new Matrix[MARKS * CHOICES];
        private final Tangent tangent = new Tangent();
        private final int[] choices = new int[CHOICES];
        private int count = 0;
        private int marks = 0;

        Palette() {
            for (int i = 0; i < MARKS * CHOICES; i++) {
                matrices[i] = new Matrix();
            }
        }

        void prepare(Media media, int newMarks, int materials, int thicknesses) {
            marks = newMarks & ALL_MARKS;
            count = 0;
            for (int choice = 0; choice < CHOICES; choice++) {
                int material = choice / THICKNESSES;
                int thickness = choice % THICKNESSES;
                if (isInSet(materials, material) && isInSet(thicknesses, thickness)) {
                    choices[count] = choice;
                    count++;
                    fill(media, choice);
                }
            }
        }

        private void fill(Media media, int choice) {
            int thickness = choice % THICKNESSES;
            for (int m = 0; m < MARKS; m++) {
                if (isInSet(marks, m)) {
                    tangent.set(THICK_P[thickness], THICK_Q[thickness]);
                    tangent.raise(m + 1);
                    matrixOf(m, choice).ofLayer(media, choice / THICKNESSES, tangent);
                }
            }
        }

        Matrix matrixOf(int m, int choice) {
            return matrices[m * CHOICES + choice];
        }
    }

    /** The search for rows that throw nothing back at any mark of the palette's set. */
    private static final class Search {
        private final Matrix[] rows = new Matrix[MARKS * (MOST_WANTED_LAYERS + 1)];
        private final int[] chosen = new int[MOST_WANTED_LAYERS];

        Search() {
            for (int i = 0; i < rows.length; i++) {
                rows[i] = new Matrix();
            }
        }

        /**
         * How many rows of just that length hold that begin as chosen ahead of this level (0: all); with
         * onlyFirst it ends at the first one, which is left as chosen.
         */
        private int seek(Palette palette, Media media, int level, int length, boolean onlyFirst) {
            int found = 0;
            if (level >= length || level >= MOST_WANTED_LAYERS) {
                return found;
            }
            for (int k = 0; k < palette.count; k++) {
                int choice = palette.choices[k];
                if (level > 0 && choice / THICKNESSES == chosen[level - 1] / THICKNESSES) {
                    continue;
                }
                chosen[level] = choice;
                if (level + 1 == length) {
                    found += holds(palette, media, level, choice) ? 1 : 0;
                } else if (extend(palette, level, choice)) {
                    found += seek(palette, media, level + 1, length, onlyFirst);
                }
                if (onlyFirst && found > 0) {
                    return found;
                }
            }
            return found;
        }

        private boolean holds(Palette palette, Media media, int level, int choice) {
            for (int m = 0; m < MARKS; m++) {
                if (isInSet(palette.marks, m)
                    && !media.throwsNothingBack(rowOf(m, level), palette.matrixOf(m, choice))) {
                    return false;
                }
            }
            return extend(palette, level, choice);
        }

        /** The rows of the next level, at all marks: false if one is too fine. */
        private boolean extend(Palette palette, int level, int choice) {
            for (int m = 0; m < MARKS; m++) {
                if (!isInSet(palette.marks, m)) {
                    continue;
                }
                Matrix row = rowOf(m, level + 1);
                row.ofRowAndLayer(rowOf(m, level), palette.matrixOf(m, choice));
                if (row.tooFine) {
                    return false;
                }
            }
            return true;
        }

        private Matrix rowOf(int m, int level) {
            return rows[m * (MOST_WANTED_LAYERS + 1) + level];
        }
    }
}
