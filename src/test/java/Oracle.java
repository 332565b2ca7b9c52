import java.util.ArrayList;
import java.util.List;

/**
 * The document again, written as near to its words as can be and by other ways
 * than the class: F(N) by the recursive quotient, what vanishes and what is
 * turned by complex numbers, joined SLOTS by lists. The tests compare the two.
 */
final class Oracle {
    static final int NONE = -6, UNKNOWN = -1, OUTSIDE = -2, STATE = -3, NO = -5, GONE = -100000;
    private static final long[][] OWN = new long[49][];
    private int q = 12, p = 1, m = 3, w = 5;
    private final int[][] kept = new int[2][];

    private static int gcd(int a, int b) {
        return b == 0 ? a : gcd(b, a % b);
    }

    private int t() {
        return gcd(q, p);
    }

    private int n() {
        return q / t();
    }

    private boolean balanced() {
        return n() % m == 0;
    }

    private boolean noSlot(int k) {
        return k < 0 || k >= q;
    }

    private boolean noPhase(int a) {
        return a < 0 || a >= m;
    }

    private static boolean noWave(int h) {
        return h < 1 || h > 99;
    }

    private int turn(int k) {
        return k * p % q / t();
    }

    private int zone(int k) {
        return 2 * m * turn(k) / n();
    }

    /** PHASES of ZONES, written out for M 3 (as the document tells them) and M 5. */
    private int phaseOf(int k) {
        int[] three = {0, 2, 1, 0, 2, 1};
        int[] five = {0, 3, 1, 4, 2, 0, 3, 1, 4, 2};
        return (m == 3 ? three : five)[zone(k)];
    }

    private boolean forward(int k) {
        return zone(k) % 2 == 0;
    }

    int machine(int newQ, int newP, int newM) {
        if (newQ < 3 || newQ > 48 || newP < 1 || newP > 10 || (newM != 3 && newM != 5)) return OUTSIDE;
        q = newQ;
        p = newP;
        m = newM;
        w = q / (2 * p) == 0 ? 1 : q / (2 * p);
        return n();
    }

    int width(int newW) {
        if (newW < 1 || newW > q - 1) return OUTSIDE;
        int was = w;
        w = newW;
        return was;
    }

    int lacking() {
        return m / gcd(n(), m);
    }

    int slot(int k, int what) {
        if (noSlot(k)) return UNKNOWN;
        if (what < 0 || what > 6) return OUTSIDE;
        if (what == 0) return turn(k);
        if (what == 1) return k / n();
        if (what == 5) return (k + w) % q;
        if (what == 6) return (k + q - w) % q;
        if (!balanced()) return STATE;
        return what == 2 ? zone(k) : what == 3 ? phaseOf(k) : forward(k) ? 1 : 0;
    }

    private List<Integer> sides(int a, boolean wanted) {
        List<Integer> found = new ArrayList<>();
        for (int k = 0; k < q; k++) if (phaseOf(k) == a && forward(k) == wanted) found.add(k);
        return found;
    }

    int phase(int a, int what) {
        if (noPhase(a)) return UNKNOWN;
        if (what < 0 || what > 2) return OUTSIDE;
        if (!balanced()) return STATE;
        int ahead = sides(a, true).size(), back = sides(a, false).size();
        return what == 0 ? ahead + back : what == 1 ? ahead : back;
    }

    int layer(int k, int layer) {
        if (noSlot(k)) return UNKNOWN;
        if (layer != 0 && layer != 1) return OUTSIDE;
        if (!balanced()) return STATE;
        if (layer == 0) return 10 * phaseOf(k) + (forward(k) ? 1 : 0);
        int coil = (k + q - w) % q;
        return 10 * phaseOf(coil) + (forward(coil) ? 0 : 1);
    }

    int each(int what) {
        if (what != 0 && what != 1) return OUTSIDE;
        int g = gcd(q, 2 * p * m);
        return what == 0 ? q / g : 2 * p * m / g;
    }

    /** Quotient and rest by a divisor whose highest number is 1; the rest stays in the row. */
    private static long[] divide(long[] row, long[] by) {
        int degree = by.length - 1;
        long[] quotient = new long[Math.max(1, row.length - degree)];
        for (int i = row.length - 1; i >= degree; i--) {
            long c = row[i];
            quotient[i - degree] = c;
            for (int j = 0; j <= degree; j++) row[i - degree + j] -= c * by[j];
        }
        return quotient;
    }

    static long[] ownPolynomial(int n) {
        if (OWN[n] == null) {
            long[] row = new long[n + 1];
            row[n] = 1;
            row[0] = -1;
            for (int d = 1; d < n; d++) if (n % d == 0) row = divide(row, ownPolynomial(d));
            OWN[n] = row;
        }
        return OWN[n];
    }

    int own(int i) {
        long[] f = ownPolynomial(n());
        if (i == -1) return f.length - 1;
        return i < -1 || i > f.length - 1 ? NONE : (int) f[i];
    }

    private long[] powers(int a, int h, int width) {
        long[] row = new long[n()];
        for (int k = 0; k < q; k++) {
            if (k / n() != 0 || phaseOf(k) != a) continue;
            int sign = forward(k) ? 1 : -1;
            row[h * turn(k) % n()] += sign;
            row[h * turn((k + width) % q) % n()] -= sign;
        }
        return row;
    }

    private double[] complex(int a, int h, int width) {
        long[] row = powers(a, h, width);
        double[] z = new double[2];
        for (int i = 0; i < row.length; i++) {
            z[0] += row[i] * Math.cos(2 * Math.PI * i / n());
            z[1] += row[i] * Math.sin(2 * Math.PI * i / n());
        }
        return z;
    }

    private static boolean near(double[] one, double re, double im) {
        return Math.hypot(one[0] - re, one[1] - im) < 1e-7;
    }

    int sum(int a, int h, int i) {
        if (noPhase(a)) return GONE + UNKNOWN;
        long[] f = ownPolynomial(n());
        if (noWave(h) || i < 0 || i >= f.length - 1) return GONE + OUTSIDE;
        if (!balanced()) return GONE + STATE;
        long[] row = powers(a, h, w);
        divide(row, f);
        return (int) row[i];
    }

    int vanishes(int h) {
        if (noWave(h)) return OUTSIDE;
        if (!balanced()) return STATE;
        return near(complex(0, h, w), 0, 0) ? 1 : 0;
    }

    int choose(int h) {
        if (noWave(h)) return OUTSIDE;
        if (!balanced()) return STATE;
        int found = NONE;
        for (int width = 1; width == 1 || width * 2 * p <= q; width++) if (near(complex(0, h, width), 0, 0)) found = width;
        return found;
    }

    int turned(int a, int b, int h) {
        if (noPhase(a) || noPhase(b)) return UNKNOWN;
        if (noWave(h)) return OUTSIDE;
        if (!balanced()) return STATE;
        double[] one = complex(a, h, w), other = complex(b, h, w);
        for (int s = 0; s < n(); s++) {
            double c = Math.cos(2 * Math.PI * s / n()), d = Math.sin(2 * Math.PI * s / n());
            if (near(other, one[0] * c - one[1] * d, one[0] * d + one[1] * c)) return s;
        }
        return NONE;
    }

    private int ways(List<Integer> ahead, List<Integer> back, int s) {
        int all = 0;
        for (int i = 0; i < ahead.size(); i++) {
            int on = Math.floorMod(ahead.get(i) - back.get((i + s) % back.size()), q);
            all += Math.min(on, q - on);
        }
        return all;
    }

    private int shift(List<Integer> ahead, List<Integer> back) {
        int best = ahead.size() - 1;
        for (int s = best - 1; s >= 0; s--) if (ways(ahead, back, s) <= ways(ahead, back, best)) best = s;
        return best;
    }

    int joined(int a, int what) {
        if (noPhase(a)) return UNKNOWN;
        if (what < 0 || what > 2) return OUTSIDE;
        if (!balanced()) return STATE;
        List<Integer> ahead = sides(a, true), back = sides(a, false);
        if (ahead.size() != back.size()) return NO;
        int s = shift(ahead, back);
        return what == 0 ? ways(ahead, back, s) : what == 1 ? s : ahead.size();
    }

    int partner(int k) {
        if (noSlot(k)) return UNKNOWN;
        if (!balanced()) return STATE;
        List<Integer> ahead = sides(phaseOf(k), true), back = sides(phaseOf(k), false);
        if (ahead.size() != back.size()) return NO;
        int s = shift(ahead, back), count = ahead.size();
        return forward(k) ? back.get((ahead.indexOf(k) + s) % count) : ahead.get((back.indexOf(k) + count - s) % count);
    }

    int path(int k, int a) {
        if (noSlot(k)) return UNKNOWN;
        if (a < 1 || a > 10) return OUTSIDE;
        if (t() % a != 0) return NO;
        return k / n() % a;
    }

    int image(int i) {
        if (i != 0 && i != 1) return OUTSIDE;
        kept[i] = new int[] {q, p, m, w};
        return 1;
    }

    int restore(int i) {
        if (i != 0 && i != 1) return OUTSIDE;
        if (kept[i] == null) return STATE;
        q = kept[i][0];
        p = kept[i][1];
        m = kept[i][2];
        w = kept[i][3];
        return 1;
    }

    int told(int what) {
        if (what < 0 || what > 6) return OUTSIDE;
        return new int[] {q, p, m, w, t(), n(), balanced() ? 1 : 0}[what];
    }
}
