import java.io.IOException;
import java.util.Arrays;
import java.util.HashSet;
import java.util.Set;

/**
 * The document from its first line: sentences that say how answers belong
 * together, asked of every MACHINE. Nothing is worked out a second time here, as
 * Oracle does it: what one call answers must fit what the others answer.
 */
public final class SentencesTest {
    private static final Check CHECK = new Check("SentencesTest");
    private static final int[] WAVES = {1, 2, 3, 5, 7, 24, 99};
    private static Document document;
    private static String said = "";

    /** What an object tells of its MACHINE; some 350 calls, so that it stays below 512. */
    private static final class Answers {
        final int q, p, m, w, t, n;
        final boolean balanced;
        final int[][] slots;

        Answers(int q, int p, int m, int w) {
            SlotStar x = machine(q, p, m, w);
            this.q = x.told(0);
            this.p = x.told(1);
            this.m = x.told(2);
            this.w = x.told(3);
            t = x.told(4);
            n = x.told(5);
            balanced = x.told(6) == 1;
            slots = new int[q][7];
            for (int k = 0; k < q; k++) for (int what = 0; what < 7; what++) slots[k][what] = x.slot(k, what);
        }

        SlotStar newObject() {
            return machine(q, p, m, w);
        }

        int turn(int k) {
            return slots[k][0];
        }

        int copy(int k) {
            return slots[k][1];
        }

        int zone(int k) {
            return slots[k][2];
        }

        int phase(int k) {
            return slots[k][3];
        }

        boolean forward(int k) {
            return slots[k][4] == 1;
        }

        int end(int k) {
            return slots[k][5];
        }

        @Override
        public String toString() {
            return "[" + q + " " + p + " " + m + ", width " + w + "] ";
        }
    }

    private static SlotStar machine(int q, int p, int m, int w) {
        SlotStar x = new SlotStar();
        x.machine(q, p, m);
        if (w > 0) x.width(w);
        return x;
    }

    private static void sentence(String words) {
        said = "\"" + words + "\": ";
        CHECK.holds(said + "the document says so", document.says(words));
    }

    private static void holds(Answers a, String what, boolean truth) {
        CHECK.holds(truth ? what : said + a + what, truth);
    }

    private static void eachTurnOnceInEachCopy(Answers a) {
        sentence("each TURN is there once in each COPY");
        Set<Integer> seen = new HashSet<>();
        for (int k = 0; k < a.q; k++) {
            holds(a, "TURN of " + k, a.turn(k) >= 0 && a.turn(k) < a.n);
            holds(a, "COPY of " + k, a.copy(k) >= 0 && a.copy(k) < a.t);
            holds(a, "TURN and COPY of " + k + " are its own", seen.add(100 * a.turn(k) + a.copy(k)));
        }
        holds(a, "TURNS and COPIES are all there", seen.size() == a.n * a.t);
    }

    private static void phasesAreAlike(Answers a) {
        sentence("phases are alike only if the star can be parted so, else it is told which divisor lacks");
        SlotStar x = a.newObject();
        int lacking = x.lacking();
        holds(a, "what lacks makes N a multiple of M", lacking >= 1 && a.n * lacking % a.m == 0);
        holds(a, "nothing lacks, if the star is BALANCED", (lacking == 1) == a.balanced);
        for (int f = 0; f < a.m; f++) {
            int forward = x.phase(f, 1), back = x.phase(f, 2);
            if (a.balanced) {
                holds(a, "as many SLOTS in PHASE " + f, x.phase(f, 0) * a.m == a.q && forward + back == x.phase(f, 0));
                holds(a, "as many FORWARD in PHASE " + f, forward == x.phase(0, 1));
            } else {
                holds(a, "PHASE " + f + " is refused", forward == SlotStar.STATE && back == SlotStar.STATE);
            }
        }
    }

    private static void zonesAcross(Answers a) {
        sentence("ZONE of a TURN v: 2 M v by N, cut (0 to 2 M less 1).");
        if (!a.balanced) return;
        for (int k = 0; k < a.q; k++) {
            int past = 2 * a.m * a.turn(k) - a.zone(k) * a.n;
            holds(a, "TURN of " + k + " is in its ZONE", past >= 0 && past < a.n);
            sentence("half of the ZONE, if that is even: it is FORWARD; else half of what the ZONE and M are together, left over by M: it is BACK");
            int across = a.forward(k) ? 0 : a.m;
            holds(a, "ZONE of " + k + " and its PHASE", Math.floorMod(a.zone(k) + across - 2 * a.phase(k), 2 * a.m) == 0 && a.phase(k) < a.m);
        }
    }

    private static void coilsEndSoFarOn(Answers a) {
        sentence("a coil lies in each slot, and ends in another one, so far on");
        for (int k = 0; k < a.q; k++) {
            holds(a, "COIL " + k + " ends so far on", Math.floorMod(a.end(k) - k, a.q) == a.w && a.end(k) != k);
            holds(a, "COIL " + k + " ends where it is told to", a.slots[a.end(k)][6] == k);
        }
    }

    private static void aboveAndBelow(Answers a) {
        sentence("In each SLOT its own COIL lies above, the one that ends there below.");
        if (!a.balanced) return;
        SlotStar x = a.newObject();
        for (int k = 0; k < a.q; k++) {
            int begins = x.layer(k, 0), ends = x.layer(a.end(k), 1);
            holds(a, "COIL " + k + " is of one PHASE", begins / 10 == a.phase(k) && ends / 10 == a.phase(k));
            holds(a, "COIL " + k + " begins as it does not end", begins % 10 == (a.forward(k) ? 1 : 0) && begins % 10 + ends % 10 == 1);
        }
    }

    private static int gcd(int a, int b) {
        return b == 0 ? a : gcd(b, a % b);
    }

    private static void slotsForEach(Answers a) {
        sentence("SLOTS for each pole and PHASE, Q by 2 P M, in lowest terms");
        SlotStar x = a.newObject();
        int upper = x.each(0), lower = x.each(1);
        holds(a, upper + " by " + lower, upper * 2 * a.p * a.m == lower * a.q && gcd(upper, lower) == 1);
    }

    private static void pathsAreAlike(Answers a) {
        sentence("paths side by side that are alike");
        for (int paths = 1; paths <= 10; paths++) {
            SlotStar x = a.newObject();
            int[][] found = new int[paths][a.n];
            for (int k = 0; k < a.q; k++) {
                int path = x.path(k, paths);
                boolean taken = path >= 0 && path < paths;
                holds(a, "PATH of " + k + " of " + paths, taken == (a.t % paths == 0));
                if (taken) found[path][a.turn(k)]++;
            }
            if (a.t % paths != 0) continue;
            for (int[] path : found) {
                for (int many : path) holds(a, "each TURN is as often in each of " + paths, many == a.t / paths);
            }
        }
    }

    private static void joinedInOrder(Answers a) {
        sentence("ends of coils in one layer, joined by the shortest ways in order");
        if (!a.balanced) return;
        SlotStar x = a.newObject();
        for (int f = 0; f < a.m; f++) {
            int[] forward = sides(a, f, true), back = sides(a, f, false);
            holds(a, "PHASE " + f + " is JOINED, if it can be", (x.joined(f, 0) == SlotStar.NO) == (forward.length != back.length));
            if (forward.length != back.length) continue;
            int ways = x.joined(f, 0), shift = x.joined(f, 1);
            holds(a, "how many of PHASE " + f, x.joined(f, 2) == forward.length);
            for (int s = 0; s < forward.length; s++) {
                int these = waysTogether(a, forward, back, s);
                holds(a, "WAYS of PHASE " + f + " by shift " + s, s == shift ? these == ways : s < shift ? these > ways : these >= ways);
            }
            for (int i = 0; i < forward.length; i++) {
                int there = back[(i + shift) % back.length];
                holds(a, forward[i] + " and " + there + " are JOINED", x.partner(forward[i]) == there && x.partner(there) == forward[i]);
            }
        }
    }

    private static int[] sides(Answers a, int phase, boolean forward) {
        int[] found = new int[a.q];
        int many = 0;
        for (int k = 0; k < a.q; k++) if (a.phase(k) == phase && a.forward(k) == forward) found[many++] = k;
        return Arrays.copyOf(found, many);
    }

    private static int waysTogether(Answers a, int[] forward, int[] back, int s) {
        int all = 0;
        for (int i = 0; i < forward.length; i++) {
            int on = Math.floorMod(back[(i + s) % back.length] - forward[i], a.q);
            all += on <= a.q - on ? on : a.q - on;
        }
        return all;
    }

    /** A number of the plane, x to some power or a SUM of such. */
    private record Point(double right, double up) {
        static Point power(int power, int n) {
            double angle = 2 * Math.PI * Math.floorMod(power, n) / n;
            return new Point(Math.cos(angle), Math.sin(angle));
        }

        Point plus(Point other, int times) {
            return new Point(right + times * other.right, up + times * other.up);
        }

        Point times(Point other) {
            return new Point(right * other.right - up * other.up, right * other.up + up * other.right);
        }

        boolean isNear(Point other) {
            return Math.hypot(right - other.right, up - other.up) < 1e-6;
        }
    }

    private static final Point NOTHING = new Point(0, 0);

    /** A polynomial, with the j-th power of x in place of x. */
    private static Point valueOf(int[] numbers, int j, int n) {
        Point all = NOTHING;
        for (int i = 0; i < numbers.length; i++) all = all.plus(Point.power(i * j, n), numbers[i]);
        return all;
    }

    private static int[] own(SlotStar x) {
        int[] numbers = new int[x.own(-1) + 1];
        for (int i = 0; i < numbers.length; i++) numbers[i] = x.own(i);
        return numbers;
    }

    private static void rootsOfOne(Answers a) {
        sentence("x is an N-th root of one (no lesser power of it is one).");
        int[] own = own(a.newObject());
        int roots = 0;
        for (int j = 0; j < a.n; j++) {
            boolean noLesser = gcd(j, a.n) == 1;
            holds(a, "F(N) is 0 for such roots alone, not for power " + j, valueOf(own, j, a.n).isNear(NOTHING) == noLesser);
            if (noLesser) roots++;
        }
        sentence("DEGREE: that of F(N).");
        holds(a, "as many as there are such roots", own.length - 1 == roots && own[roots] == 1);
    }

    private static void quotient(int n) {
        sentence("x to the N less 1, by all F(d) of divisors d of N that are less than N");
        long[] product = {1};
        for (int d = 1; d <= n; d++) {
            // Machines whose stars have 1 and 2 turns have more SLOTS than these.
            SlotStar x = d < 3 ? machine(3 * d, 3, 3, 0) : machine(d, 1, 3, 0);
            CHECK.due("N", x.told(5), d);
            if (n % d == 0) product = product(product, own(x));
        }
        for (int i = 0; i < product.length; i++) CHECK.due("F(d) of all d of " + n + ", x to the " + i, product[i], i == 0 ? -1 : i == n ? 1 : 0);
        CHECK.due("DEGREES of all d of " + n, product.length - 1, n);
    }

    private static long[] product(long[] one, int[] other) {
        long[] all = new long[one.length + other.length - 1];
        for (int i = 0; i < one.length; i++) for (int j = 0; j < other.length; j++) all[i + j] += one[i] * other[j];
        return all;
    }

    private static Point sumOfCoils(Answers a, int phase, int wave) {
        Point all = NOTHING;
        for (int k = 0; k < a.q; k++) {
            if (a.copy(k) != 0 || a.phase(k) != phase) continue;
            int sign = a.forward(k) ? 1 : -1;
            all = all.plus(Point.power(wave * a.turn(k), a.n), sign).plus(Point.power(wave * a.turn(a.end(k)), a.n), -sign);
        }
        return all;
    }

    private static void sums(Answers a, int wave) {
        if (!a.balanced) return;
        SlotStar x = a.newObject();
        boolean vanishes = x.vanishes(wave) == 1;
        int degree = x.own(-1);
        Point[] sums = new Point[a.m];
        for (int f = 0; f < a.m; f++) {
            sums[f] = sumOfCoils(a, f, wave);
            int[] numbers = new int[degree];
            boolean nothing = true;
            for (int i = 0; i < degree; i++) {
                numbers[i] = x.sum(f, wave, i);
                nothing &= numbers[i] == 0;
            }
            sentence("all of it left over by F(N): numbers 0 to DEGREE less 1, that of x to the 0 first");
            holds(a, "SUM of " + f + " for " + wave, valueOf(numbers, 1, a.n).isNear(sums[f]));
            sentence("A WAVE VANISHES, if all numbers of the SUM of PHASE 0 are 0 (so are all PHASES' then).");
            holds(a, "SUM of " + f + " for " + wave + " is nothing", nothing == vanishes);
        }
        turned(a, x, sums, wave);
    }

    private static void turned(Answers a, SlotStar x, Point[] sums, int wave) {
        sentence("that of the first, times some power of x, is that of the second: the least such power");
        for (int one = 0; one < a.m; one++) {
            for (int other = 0; other < a.m; other++) {
                int power = x.turned(one, other, wave);
                holds(a, one + " is turned to " + other + " for " + wave, sums[one].times(Point.power(power, a.n)).isNear(sums[other]));
                for (int less = 0; less < power; less++) {
                    holds(a, less + " does not turn " + one + " to " + other, !sums[one].times(Point.power(less, a.n)).isNear(sums[other]));
                }
            }
        }
    }

    private static void widthsThatMakeOneVanish(Answers a, int wave) {
        sentence("which waves vanish, which width makes one vanish");
        if (!a.balanced) return;
        SlotStar x = machine(a.q, a.p, a.m, 0);
        int chosen = x.choose(wave), usual = x.told(3);
        holds(a, chosen + " is chosen for " + wave, chosen == SlotStar.NONE || chosen >= 1 && chosen <= usual);
        for (int w : new int[] {1, a.q - 1}) {
            x.width(w);
            holds(a, chosen + " is chosen for " + wave + " by width " + w, x.choose(wave) == chosen && x.told(3) == w);
        }
        for (int w = usual; w >= 1 && w >= chosen; w--) {
            x.width(w);
            holds(a, "width " + w + " for " + wave, (x.vanishes(wave) == 1) == (w == chosen));
        }
    }

    private static void images(Answers a) {
        sentence("They are as they were when they were kept");
        for (int n = 0; n < 2; n++) {
            SlotStar x = a.newObject();
            x.image(n);
            x.machine(a.q == 48 ? 3 : a.q + 1, 11 - a.p, 8 - a.m);
            x.image(1 - n);
            x.restore(n);
            int[] were = {a.q, a.p, a.m, a.w, a.t, a.n, a.balanced ? 1 : 0};
            for (int what = 0; what < were.length; what++) holds(a, "told " + what, x.told(what) == were[what]);
            for (int k = 0; k < a.q; k++) holds(a, "SLOT " + k, x.slot(k, 0) == a.turn(k) && x.slot(k, 3) == a.phase(k) && x.slot(k, 5) == a.end(k));
        }
    }

    private static void everyMachine(int q, int p, int m) {
        Answers usual = new Answers(q, p, m, 0);
        eachTurnOnceInEachCopy(usual);
        phasesAreAlike(usual);
        zonesAcross(usual);
        slotsForEach(usual);
        pathsAreAlike(usual);
        joinedInOrder(usual);
        rootsOfOne(usual);
        for (int wave : WAVES) {
            sums(usual, wave);
            widthsThatMakeOneVanish(usual, wave);
        }
        for (int w : new int[] {1, q / 2, q - 1}) {
            Answers other = new Answers(q, p, m, w);
            coilsEndSoFarOn(other);
            aboveAndBelow(other);
            sums(other, 1 + (q + p + w) % 99);
            images(other);
        }
    }

    public static void main(String[] args) throws IOException {
        document = new Document();
        for (int n = 1; n <= 48; n++) quotient(n);
        for (int q = 3; q <= 48; q++) {
            for (int p = 1; p <= 10; p++) {
                everyMachine(q, p, 3);
                everyMachine(q, p, 5);
            }
        }
        CHECK.end();
    }
}
