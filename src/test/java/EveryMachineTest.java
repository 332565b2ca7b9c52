/** Every MACHINE that there is, against the oracle: each answer of each call. */
public final class EveryMachineTest {
    private static final Check CHECK = new Check("EveryMachineTest");
    private static final int MOST_CALLS = 512;
    private static SlotStar star;
    private static Oracle oracle;
    private static int calls;
    private static int q, p, m, w;

    /** A new object before the 512th call: what later calls answer is free. */
    private static void renewIfUsed() {
        if (calls < MOST_CALLS) return;
        star = new SlotStar();
        oracle = new Oracle();
        due("machine", star.machine(q, p, m), oracle.machine(q, p, m));
        if (w != oracle.told(3)) due("width", star.width(w), oracle.width(w));
        calls = 2;
    }

    private static void due(String call, int got, int want) {
        if (got != want) call = q + " " + p + " " + m + " width " + w + ": " + call;
        CHECK.due(call, got, want);
        calls++;
    }

    private static void numbersOfMachine() {
        for (int what = -1; what <= 7; what++) {
            renewIfUsed();
            due("told " + what, star.told(what), oracle.told(what));
        }
        renewIfUsed();
        due("lacking", star.lacking(), oracle.lacking());
        for (int what = -1; what <= 2; what++) {
            renewIfUsed();
            due("each " + what, star.each(what), oracle.each(what));
        }
        for (int i = -2; i <= 49; i++) {
            renewIfUsed();
            due("own " + i, star.own(i), oracle.own(i));
        }
    }

    private static void slots() {
        for (int k = -1; k <= q; k++) {
            for (int what = -1; what <= 7; what++) {
                renewIfUsed();
                due("slot " + k + " " + what, star.slot(k, what), oracle.slot(k, what));
            }
            for (int layer = -1; layer <= 2; layer++) {
                renewIfUsed();
                due("layer " + k + " " + layer, star.layer(k, layer), oracle.layer(k, layer));
            }
            for (int a = 0; a <= 11; a++) {
                renewIfUsed();
                due("path " + k + " " + a, star.path(k, a), oracle.path(k, a));
            }
            renewIfUsed();
            due("partner " + k, star.partner(k), oracle.partner(k));
        }
    }

    private static void phases() {
        for (int a = -1; a <= m; a++) {
            for (int what = -1; what <= 3; what++) {
                renewIfUsed();
                due("phase " + a + " " + what, star.phase(a, what), oracle.phase(a, what));
                renewIfUsed();
                due("joined " + a + " " + what, star.joined(a, what), oracle.joined(a, what));
            }
        }
    }

    private static void waves(int step) {
        int degree = oracle.own(-1);
        for (int h = 0; h <= 100; h += h == 0 || h >= 99 ? 1 : Math.min(step, 99 - h)) {
            renewIfUsed();
            due("vanishes " + h, star.vanishes(h), oracle.vanishes(h));
            for (int a = -1; a <= m; a++) {
                for (int i = -1; i <= degree; i++) {
                    renewIfUsed();
                    due("sum " + a + " " + h + " " + i, star.sum(a, h, i), oracle.sum(a, h, i));
                }
            }
        }
    }

    private static void choices() {
        for (int h = 0; h <= 100; h++) {
            renewIfUsed();
            due("choose " + h, star.choose(h), oracle.choose(h));
        }
    }

    private static void turns(int step) {
        for (int h = 0; h <= 100; h += h == 0 || h >= 99 ? 1 : Math.min(step, 99 - h)) {
            for (int a = -1; a <= m; a++) {
                for (int b = -1; b <= m; b++) {
                    renewIfUsed();
                    due("turned " + a + " " + b + " " + h, star.turned(a, b, h), oracle.turned(a, b, h));
                }
            }
        }
    }

    private static void allOf(int newQ, int newP, int newM) {
        q = newQ;
        p = newP;
        m = newM;
        w = Math.max(1, q / (2 * p));
        calls = MOST_CALLS;
        numbersOfMachine();
        slots();
        phases();
        waves(7);
        choices();
        turns(14);
        for (int width = 1; width < q; width += 1 + q / 6) {
            w = width;
            calls = MOST_CALLS;
            slots();
            waves(23);
            turns(49);
        }
    }

    public static void main(String[] args) {
        for (int newQ = 3; newQ <= 48; newQ++) {
            for (int newP = 1; newP <= 10; newP++) {
                allOf(newQ, newP, 3);
                allOf(newQ, newP, 5);
            }
        }
        CHECK.end();
    }
}
