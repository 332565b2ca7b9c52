import java.util.Arrays;

/**
 * The slots of a machine that turns, the star of their turns, what each phase
 * sums up to for a wave, and how the slots of one layer are joined. The words
 * in capitals are those of the document.
 */
public final class SlotStar {
    public static final int NONE = -6, UNKNOWN = -1, OUTSIDE = -2, STATE = -3, FULL = -4, NO = -5;
    public static final int GONE = -100000;

    private static final int LEAST_SLOTS = 3;
    private static final int MOST_SLOTS = 48;
    private static final int MOST_PAIRS = 10;
    private static final int MOST_WAVE = 99;
    private static final int MOST_PATHS = 10;
    private static final int IMAGES = 2;
    private static final int NUMBERS_OF_IMAGE = 4;

    private final Machine star;
    private final Root root;
    private final Joint joint;
    // Rows for SUMS, made once and used by every call, so that calls make nothing.
    private final int[] first;
    private final int[] second;
    // Q, P, M and WIDTH of each IMAGE; a Q of 0 tells that it was not kept.
    private final int[] images;

    public SlotStar() {
        star = new Machine();
        root = new Root();
        joint = new Joint();
        first = new int[MOST_SLOTS];
        second = new int[MOST_SLOTS];
        images = new int[IMAGES * NUMBERS_OF_IMAGE];
        take(12, 1, 3, 5);
    }

    // ---- 1 machines

    public int machine(int q, int p, int m) {
        if (!isWithin(q, LEAST_SLOTS, MOST_SLOTS) || !isWithin(p, 1, MOST_PAIRS) || (m != 3 && m != 5)) {
            return OUTSIDE;
        }
        take(q, p, m, poleWidth(q, p));
        return star.turns;
    }

    public int width(int w) {
        if (!isWithin(w, 1, star.slots - 1)) {
            return OUTSIDE;
        }
        int before = star.width;
        star.width = w;
        return before;
    }

    public int lacking() {
        return star.lackingDivisor();
    }

    public int slot(int k, int what) {
        if (!isSlot(k)) {
            return UNKNOWN;
        }
        if (!isWithin(what, 0, 6)) {
            return OUTSIDE;
        }
        if (isWithin(what, 2, 4) && !star.isBalanced()) {
            return STATE;
        }
        switch (what) {
            case 0:
                return star.turnOf(k);
            case 1:
                return star.copyOf(k);
            case 2:
                return star.zoneOf(k);
            case 3:
                return star.phaseOf(k);
            case 4:
                return star.isForward(k) ? 1 : 0;
            case 5:
                return star.endOf(k, star.width);
            default:
                return star.coilEndingIn(k);
        }
    }

    public int phase(int a, int what) {
        if (!isPhase(a)) {
            return UNKNOWN;
        }
        if (!isWithin(what, 0, 2)) {
            return OUTSIDE;
        }
        if (!star.isBalanced()) {
            return STATE;
        }
        switch (what) {
            case 0:
                return star.countSides(a, true) + star.countSides(a, false);
            case 1:
                return star.countSides(a, true);
            default:
                return star.countSides(a, false);
        }
    }

    public int layer(int k, int layer) {
        if (!isSlot(k)) {
            return UNKNOWN;
        }
        if (!isWithin(layer, 0, 1)) {
            return OUTSIDE;
        }
        if (!star.isBalanced()) {
            return STATE;
        }
        boolean above = layer == 0;
        int coil = above ? k : star.coilEndingIn(k);
        // Current that goes in at one side of a coil comes out at the other: the sides' marks differ.
        boolean marked = star.isForward(coil) == above;
        return 10 * star.phaseOf(coil) + (marked ? 1 : 0);
    }

    public int each(int what) {
        if (!isWithin(what, 0, 1)) {
            return OUTSIDE;
        }
        int lower = 2 * star.pairs * star.phases;
        int divisor = commonDivisor(star.slots, lower);
        return what == 0 ? cut(star.slots, divisor) : cut(lower, divisor);
    }

    // ---- 2 sums

    public int own(int i) {
        if (i == -1) {
            return root.degree;
        }
        if (!isWithin(i, 0, root.degree)) {
            return NONE;
        }
        return at(root.numbers, i);
    }

    public int sum(int phase, int wave, int i) {
        if (!isPhase(phase)) {
            return GONE + UNKNOWN;
        }
        if (!isWave(wave) || !isWithin(i, 0, root.degree - 1)) {
            return GONE + OUTSIDE;
        }
        if (!star.isBalanced()) {
            return GONE + STATE;
        }
        addUp(first, phase, wave, star.width);
        return at(first, i);
    }

    public int vanishes(int wave) {
        if (!isWave(wave)) {
            return OUTSIDE;
        }
        if (!star.isBalanced()) {
            return STATE;
        }
        return isNothing(wave, star.width) ? 1 : 0;
    }

    public int choose(int wave) {
        if (!isWave(wave)) {
            return OUTSIDE;
        }
        if (!star.isBalanced()) {
            return STATE;
        }
        for (int w = poleWidth(star.slots, star.pairs); w >= 1; w--) {
            if (isNothing(wave, w)) {
                return w;
            }
        }
        return NONE;
    }

    public int turned(int one, int other, int wave) {
        if (!isPhase(one) || !isPhase(other)) {
            return UNKNOWN;
        }
        if (!isWave(wave)) {
            return OUTSIDE;
        }
        if (!star.isBalanced()) {
            return STATE;
        }
        addUp(first, one, wave, star.width);
        addUp(second, other, wave, star.width);
        for (int power = 0; power < star.turns; power++) {
            if (root.areSame(first, second)) {
                return power;
            }
            root.multiplyByX(first);
        }
        return NONE;
    }

    // ---- 3 one layer, paths

    public int joined(int phase, int what) {
        if (!isPhase(phase)) {
            return UNKNOWN;
        }
        if (!isWithin(what, 0, 2)) {
            return OUTSIDE;
        }
        if (!star.isBalanced()) {
            return STATE;
        }
        if (!joint.join(star, phase)) {
            return NO;
        }
        switch (what) {
            case 0:
                return joint.ways;
            case 1:
                return joint.shift;
            default:
                return joint.forwards;
        }
    }

    public int partner(int k) {
        if (!isSlot(k)) {
            return UNKNOWN;
        }
        if (!star.isBalanced()) {
            return STATE;
        }
        if (!joint.join(star, star.phaseOf(k))) {
            return NO;
        }
        return joint.otherOf(k, star.isForward(k));
    }

    public int path(int k, int a) {
        if (!isSlot(k)) {
            return UNKNOWN;
        }
        if (!isWithin(a, 1, MOST_PATHS)) {
            return OUTSIDE;
        }
        if (leftOver(star.copies, a) != 0) {
            return NO;
        }
        return leftOver(star.copyOf(k), a);
    }

    public int image(int n) {
        if (!isWithin(n, 0, IMAGES - 1)) {
            return OUTSIDE;
        }
        int from = n * NUMBERS_OF_IMAGE;
        put(images, from, star.slots);
        put(images, from + 1, star.pairs);
        put(images, from + 2, star.phases);
        put(images, from + 3, star.width);
        return 1;
    }

    public int restore(int n) {
        if (!isWithin(n, 0, IMAGES - 1)) {
            return OUTSIDE;
        }
        int from = n * NUMBERS_OF_IMAGE;
        if (at(images, from) == 0) {
            return STATE;
        }
        take(at(images, from), at(images, from + 1), at(images, from + 2), at(images, from + 3));
        return 1;
    }

    public int told(int what) {
        switch (what) {
            case 0:
                return star.slots;
            case 1:
                return star.pairs;
            case 2:
                return star.phases;
            case 3:
                return star.width;
            case 4:
                return star.copies;
            case 5:
                return star.turns;
            case 6:
                return star.isBalanced() ? 1 : 0;
            default:
                return OUTSIDE;
        }
    }

    // ---- what the calls share

    private void take(int q, int p, int m, int w) {
        star.become(q, p, m, w);
        root.become(star.turns);
    }

    private boolean isSlot(int k) {
        return isWithin(k, 0, star.slots - 1);
    }

    private boolean isPhase(int a) {
        return isWithin(a, 0, star.phases - 1);
    }

    private static boolean isWave(int wave) {
        return isWithin(wave, 1, MOST_WAVE);
    }

    // The WIDTH is an argument, as choose tries widths that the machine does not have.
    private void addUp(int[] row, int phase, int wave, int width) {
        Arrays.fill(row, 0);
        for (int k = 0; k < star.turns; k++) {
            if (star.phaseOf(k) == phase) {
                int sign = star.isForward(k) ? 1 : -1;
                addPower(row, wave * star.turnOf(k), sign);
                addPower(row, wave * star.turnOf(star.endOf(k, width)), -sign);
            }
        }
        root.reduce(row);
    }

    private void addPower(int[] row, int power, int number) {
        int i = leftOver(power, star.turns);
        put(row, i, at(row, i) + number);
    }

    private boolean isNothing(int wave, int width) {
        addUp(first, 0, wave, width);
        return root.isZero(first);
    }

    private static int poleWidth(int q, int p) {
        return Math.max(1, cut(q, 2 * p));
    }

    private static boolean isWithin(int number, int least, int most) {
        return number >= least && number <= most;
    }

    // Counted down, not by Euclid's steps, so that the loop's end stands in its own line.
    private static int commonDivisor(int a, int b) {
        for (int d = Math.min(a, b); d > 1; d--) {
            if (leftOver(a, d) == 0 && leftOver(b, d) == 0) {
                return d;
            }
        }
        return 1;
    }

    // All divisions and all looks into rows go through the next four, which
    // test the divisor or the index, so that the Java machine never throws.

    private static int leftOver(int number, int by) {
        if (by < 1) {
            return 0;
        }
        int rest = number % by;
        return rest < 0 ? rest + by : rest;
    }

    private static int cut(int number, int by) {
        return by < 1 ? 0 : number / by;
    }

    private static int at(int[] row, int i) {
        return isWithin(i, 0, row.length - 1) ? row[i] : 0;
    }

    private static void put(int[] row, int i, int number) {
        if (isWithin(i, 0, row.length - 1)) {
            row[i] = number;
        }
    }

    /** A MACHINE and what each of its SLOTS is. */
    private static final class Machine {
        int slots;
        int pairs;
        int phases;
        int width;
        int copies;
        int turns;

        void become(int q, int p, int m, int w) {
            slots = q;
            pairs = p;
            phases = m;
            width = w;
            copies = commonDivisor(q, p);
            turns = cut(q, copies);
        }

        int lackingDivisor() {
            return cut(phases, commonDivisor(turns, phases));
        }

        boolean isBalanced() {
            return lackingDivisor() == 1;
        }

        int turnOf(int k) {
            return cut(leftOver(k * pairs, slots), copies);
        }

        int copyOf(int k) {
            return cut(k, turns);
        }

        int zoneOf(int k) {
            return cut(2 * phases * turnOf(k), turns);
        }

        boolean isForward(int k) {
            return leftOver(zoneOf(k), 2) == 0;
        }

        int phaseOf(int k) {
            int zone = zoneOf(k);
            return leftOver(zone, 2) == 0 ? cut(zone, 2) : leftOver(cut(zone + phases, 2), phases);
        }

        int endOf(int coil, int coilWidth) {
            return leftOver(coil + coilWidth, slots);
        }

        int coilEndingIn(int k) {
            return leftOver(k - width, slots);
        }

        int countSides(int a, boolean forward) {
            int count = 0;
            for (int k = 0; k < slots; k++) {
                if (phaseOf(k) == a && isForward(k) == forward) {
                    count++;
                }
            }
            return count;
        }

        int wayBetween(int one, int other) {
            int far = Math.abs(one - other);
            return Math.min(far, slots - far);
        }
    }

    /** An N-th root of one, x, and whole polynomials of it. */
    private static final class Root {
        // The numbers of the root's own polynomial F(N), that of x to the 0 first.
        final int[] numbers = new int[MOST_SLOTS + 1];
        int degree;
        private int turns;

        /**
         * F(N) is the product of all (x to the d less 1), d dividing N, each to
         * the power that Moebius tells of N by d: the document's quotient
         * without its inner F(d). The factors are taken with the other sign,
         * as series in rising powers, so that both steps stay in one row. The
         * signs cancel, as there are as many factors above as below; but N of 1
         * has one factor alone.
         */
        void become(int n) {
            turns = n;
            Arrays.fill(numbers, 0);
            put(numbers, 0, n == 1 ? -1 : 1);
            for (int d = 1; d <= n; d++) {
                if (leftOver(n, d) == 0) {
                    int power = moebius(cut(n, d));
                    if (power > 0) {
                        multiplyByOneLess(d);
                    } else if (power < 0) {
                        divideByOneLess(d);
                    }
                }
            }
            degree = highestPower();
        }

        private static int moebius(int number) {
            int rest = number;
            int sign = 1;
            for (int prime = 2; prime <= MOST_SLOTS; prime++) {
                if (leftOver(rest, prime) == 0) {
                    rest = cut(rest, prime);
                    sign = -sign;
                    if (leftOver(rest, prime) == 0) {
                        return 0;
                    }
                }
            }
            return sign;
        }

        private void multiplyByOneLess(int d) {
            for (int i = turns; i >= d; i--) {
                put(numbers, i, at(numbers, i) - at(numbers, i - d));
            }
        }

        private void divideByOneLess(int d) {
            for (int i = d; i <= turns; i++) {
                put(numbers, i, at(numbers, i) + at(numbers, i - d));
            }
        }

        private int highestPower() {
            for (int i = turns; i > 0; i--) {
                if (at(numbers, i) != 0) {
                    return i;
                }
            }
            return 0;
        }

        /** Leaves the row over by F(N); F(N) begins with 1 times its highest power. */
        void reduce(int[] row) {
            for (int i = turns - 1; i >= degree; i--) {
                int top = at(row, i);
                for (int j = 0; j <= degree; j++) {
                    int place = i - degree + j;
                    put(row, place, at(row, place) - top * at(numbers, j));
                }
            }
        }

        /** Takes a reduced row and leaves a reduced one. */
        void multiplyByX(int[] row) {
            int top = at(row, degree - 1);
            for (int i = degree - 1; i > 0; i--) {
                put(row, i, at(row, i - 1) - top * at(numbers, i));
            }
            put(row, 0, -top * at(numbers, 0));
        }

        boolean isZero(int[] row) {
            for (int i = 0; i < degree; i++) {
                if (at(row, i) != 0) {
                    return false;
                }
            }
            return true;
        }

        boolean areSame(int[] one, int[] other) {
            for (int i = 0; i < degree; i++) {
                if (at(one, i) != at(other, i)) {
                    return false;
                }
            }
            return true;
        }
    }

    /** The SLOTS of one PHASE in ONE LAYER, JOINED by the shift of the least WAYS. */
    private static final class Joint {
        int forwards;
        int shift;
        int ways;
        private int backs;
        private final int[] forwardSlots = new int[MOST_SLOTS];
        private final int[] backSlots = new int[MOST_SLOTS];

        /** Tells whether the PHASE can be JOINED; only then are shift and ways its own. */
        boolean join(Machine star, int phase) {
            collect(star, phase);
            if (forwards != backs) {
                return false;
            }
            shift = 0;
            ways = waysOf(star, 0);
            for (int s = 1; s < forwards; s++) {
                int these = waysOf(star, s);
                if (these < ways) {
                    shift = s;
                    ways = these;
                }
            }
            return true;
        }

        private void collect(Machine star, int phase) {
            forwards = 0;
            backs = 0;
            for (int k = 0; k < star.slots; k++) {
                if (star.phaseOf(k) == phase) {
                    if (star.isForward(k)) {
                        put(forwardSlots, forwards, k);
                        forwards++;
                    } else {
                        put(backSlots, backs, k);
                        backs++;
                    }
                }
            }
        }

        private int waysOf(Machine star, int s) {
            int all = 0;
            for (int i = 0; i < forwards; i++) {
                all += star.wayBetween(at(forwardSlots, i), backOf(i, s));
            }
            return all;
        }

        private int backOf(int i, int s) {
            return at(backSlots, leftOver(i + s, forwards));
        }

        /** The SLOT that k is JOINED to; k is one of the PHASE last joined. */
        int otherOf(int k, boolean forward) {
            for (int i = 0; i < forwards; i++) {
                int there = at(forwardSlots, i);
                int here = backOf(i, shift);
                if (k == (forward ? there : here)) {
                    return forward ? here : there;
                }
            }
            return NO;
        }
    }
}
