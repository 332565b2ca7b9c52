import java.util.Random;

/** Runs of 512 calls with all kinds of numbers, the farthest too, against the oracle. */
public final class RandomRunsTest {
    private static final int RUNS = 2000;
    private static final int CALLS = 512;
    private static final int[] FAR = {Integer.MIN_VALUE, Integer.MIN_VALUE + 1, -1000, 1000, Integer.MAX_VALUE - 1, Integer.MAX_VALUE};
    private static final Random RANDOM = new Random(20261117);

    private static int number(int least, int most) {
        int kind = RANDOM.nextInt(40);
        if (kind == 0) return FAR[RANDOM.nextInt(FAR.length)];
        if (kind == 1) return least - 1;
        if (kind == 2) return most + 1;
        return least + RANDOM.nextInt(most - least + 1);
    }

    private static void call(Check check, SlotStar x, Oracle o, String run) {
        int q = o.told(0), m = o.told(2), degree = o.own(-1);
        int k = number(0, q - 1), a = number(0, m - 1), b = number(0, m - 1), h = number(1, 99);
        switch (RANDOM.nextInt(22)) {
            case 0: {
                int newQ = RANDOM.nextBoolean() ? 15 * (1 + RANDOM.nextInt(3)) : number(3, 48), newP = number(1, 10);
                int newM = RANDOM.nextInt(20) == 0 ? number(2, 6) : RANDOM.nextBoolean() ? 3 : 5;
                check.due(run + "machine " + newQ + " " + newP + " " + newM, x.machine(newQ, newP, newM), o.machine(newQ, newP, newM));
                break;
            }
            case 1: { int w = number(1, q - 1); check.due(run + "width " + w, x.width(w), o.width(w)); break; }
            case 2: check.due(run + "lacking", x.lacking(), o.lacking()); break;
            case 3: case 4: { int what = number(0, 6); check.due(run + "slot " + k + " " + what, x.slot(k, what), o.slot(k, what)); break; }
            case 5: { int what = number(0, 2); check.due(run + "phase " + a + " " + what, x.phase(a, what), o.phase(a, what)); break; }
            case 6: { int layer = number(0, 1); check.due(run + "layer " + k + " " + layer, x.layer(k, layer), o.layer(k, layer)); break; }
            case 7: { int what = number(0, 1); check.due(run + "each " + what, x.each(what), o.each(what)); break; }
            case 8: { int i = number(-1, degree); check.due(run + "own " + i, x.own(i), o.own(i)); break; }
            case 9: case 10: { int i = number(0, degree - 1); check.due(run + "sum " + a + " " + h + " " + i, x.sum(a, h, i), o.sum(a, h, i)); break; }
            case 11: check.due(run + "vanishes " + h, x.vanishes(h), o.vanishes(h)); break;
            case 12: check.due(run + "choose " + h, x.choose(h), o.choose(h)); break;
            case 13: check.due(run + "turned " + a + " " + b + " " + h, x.turned(a, b, h), o.turned(a, b, h)); break;
            case 14: { int what = number(0, 2); check.due(run + "joined " + a + " " + what, x.joined(a, what), o.joined(a, what)); break; }
            case 15: case 16: check.due(run + "partner " + k, x.partner(k), o.partner(k)); break;
            case 17: { int paths = number(1, 10); check.due(run + "path " + k + " " + paths, x.path(k, paths), o.path(k, paths)); break; }
            case 18: { int n = number(0, 1); check.due(run + "image " + n, x.image(n), o.image(n)); break; }
            case 19: { int n = number(0, 1); check.due(run + "restore " + n, x.restore(n), o.restore(n)); break; }
            default: { int what = number(0, 6); check.due(run + "told " + what, x.told(what), o.told(what)); break; }
        }
    }

    public static void main(String[] args) {
        Check check = new Check("RandomRunsTest");
        for (int run = 0; run < RUNS; run++) {
            SlotStar x = new SlotStar();
            Oracle o = new Oracle();
            for (int i = 0; i < CALLS; i++) {
                call(check, x, o, "run " + run + " call " + i + ": ");
            }
        }
        check.end();
    }
}
