/** Promises 14 to 19, by numbers worked out by hand, and that refused calls change nothing. */
public final class LayerTest {
    private static final Check CHECK = new Check("LayerTest");

    private static void due(String call, int got, int want) {
        CHECK.due(call, got, want);
    }

    private static SlotStar machine(int q, int p, int m) {
        SlotStar x = new SlotStar();
        x.machine(q, p, m);
        return x;
    }

    /** 12 slots: phase 0 has 0, 1 forward and 6, 7 back: 6 + 6 or 5 + 5 (1 to 6, 0 to 7). */
    private static void promise14Joined() {
        SlotStar x = new SlotStar();
        due("12 slots: joined 0 0", x.joined(0, 0), 10);
        due("12 slots: joined 0 1", x.joined(0, 1), 1);
        due("12 slots: joined 0 2", x.joined(0, 2), 2);
        x.machine(6, 1, 3);
        due("one pair: joined 1 0", x.joined(1, 0), 3);
        due("one pair: joined 1 1", x.joined(1, 1), 0);
        due("one pair: joined 1 2", x.joined(1, 2), 1);
        // Phase 0 has 0, 6 forward and 3, 9 back: each way is 3 with both shifts.
        x.machine(12, 2, 3);
        due("as little: joined 0 0", x.joined(0, 0), 6);
        due("as little, the least shift: joined 0 1", x.joined(0, 1), 0);
        due("joined 0 2", x.joined(0, 2), 2);
        x.machine(18, 1, 3);
        due("18 slots: joined 0 0", x.joined(0, 0), 23);
        due("18 slots: joined 0 1", x.joined(0, 1), 1);
        due("18 slots: joined 0 2", x.joined(0, 2), 3);
        x.machine(9, 1, 3);
        due("odd: joined 0 0", x.joined(0, 0), SlotStar.NO);
        due("odd: joined 0 3", x.joined(0, 3), SlotStar.OUTSIDE);
        due("odd: joined 0 -1", x.joined(0, -1), SlotStar.OUTSIDE);
        due("odd: joined 3 3", x.joined(3, 3), SlotStar.UNKNOWN);
        due("odd: joined -1 0", x.joined(-1, 0), SlotStar.UNKNOWN);
        x.machine(8, 1, 5);
        due("unbalanced: joined 4 2", x.joined(4, 2), SlotStar.STATE);
        due("unbalanced: joined 4 3", x.joined(4, 3), SlotStar.OUTSIDE);
        due("unbalanced: joined 5 0", x.joined(5, 0), SlotStar.UNKNOWN);
    }

    private static void promise15Partner() {
        SlotStar x = new SlotStar();
        int[] twelve = {7, 6, 9, 8, 11, 10, 1, 0, 3, 2, 5, 4};
        for (int k = 0; k < 12; k++) {
            due("12 slots: partner " + k, x.partner(k), twelve[k]);
        }
        x.machine(12, 2, 3);
        int[] pairs = {3, 4, 5, 0, 1, 2, 9, 10, 11, 6, 7, 8};
        for (int k = 0; k < 12; k++) {
            due("12 slots, 2 pairs of poles: partner " + k, x.partner(k), pairs[k]);
        }
        // Phase 0 has 0, 1, 2 forward and 9, 10, 11 back: shifts 1 and 2 are both 23 long.
        x.machine(18, 1, 3);
        int[] three = {10, 11, 9};
        for (int k = 0; k < 3; k++) {
            due("18 slots: partner " + k, x.partner(k), three[k]);
            due("18 slots: partner " + three[k], x.partner(three[k]), k);
        }
        due("partner 18", x.partner(18), SlotStar.UNKNOWN);
        due("partner -1", x.partner(-1), SlotStar.UNKNOWN);
        x.machine(9, 1, 3);
        due("odd: partner 8", x.partner(8), SlotStar.NO);
        due("odd: partner 9", x.partner(9), SlotStar.UNKNOWN);
        x.machine(8, 1, 3);
        due("unbalanced: partner 7", x.partner(7), SlotStar.STATE);
        due("unbalanced: partner 8", x.partner(8), SlotStar.UNKNOWN);
    }

    private static void promise16Path() {
        SlotStar x = machine(48, 4, 3);
        for (int k = 0; k < 48; k++) {
            due("path " + k + " 1", x.path(k, 1), 0);
            due("path " + k + " 2", x.path(k, 2), k / 12 % 2);
            due("path " + k + " 4", x.path(k, 4), k / 12);
        }
        due("path 0 3", x.path(0, 3), SlotStar.NO);
        due("path 0 8", x.path(0, 8), SlotStar.NO);
        due("path 0 0", x.path(0, 0), SlotStar.OUTSIDE);
        due("path 0 11", x.path(0, 11), SlotStar.OUTSIDE);
        due("path 0 -1", x.path(0, -1), SlotStar.OUTSIDE);
        due("path 48 0", x.path(48, 0), SlotStar.UNKNOWN);
        due("path -1 1", x.path(-1, 1), SlotStar.UNKNOWN);
        x.machine(40, 10, 3);
        due("unbalanced: path 39 10", x.path(39, 10), 9);
        due("unbalanced: path 39 5", x.path(39, 5), 4);
        due("unbalanced: path 39 4", x.path(39, 4), SlotStar.NO);
    }

    private static void told(String when, SlotStar x, int... want) {
        for (int what = 0; what < want.length; what++) {
            due(when + ": told " + what, x.told(what), want[what]);
        }
    }

    private static void promises17And18Images() {
        SlotStar x = new SlotStar();
        due("restore 0 before", x.restore(0), SlotStar.STATE);
        due("restore -1", x.restore(-1), SlotStar.OUTSIDE);
        due("restore 2", x.restore(2), SlotStar.OUTSIDE);
        due("image -1", x.image(-1), SlotStar.OUTSIDE);
        due("image 2", x.image(2), SlotStar.OUTSIDE);
        x.width(7);
        due("image 0", x.image(0), 1);
        due("restore 1 before", x.restore(1), SlotStar.STATE);
        x.machine(45, 6, 5);
        x.width(2);
        due("image 1", x.image(1), 1);
        x.machine(8, 1, 3);
        due("restore 0", x.restore(0), 1);
        told("image 0", x, 12, 1, 3, 7, 1, 12, 1);
        due("own follows the image", x.own(-1), 4);
        due("restore 1", x.restore(1), 1);
        told("image 1", x, 45, 6, 5, 2, 3, 15, 1);
        due("own follows the image", x.own(-1), 8);
        x.width(3);
        due("restore 1 again", x.restore(1), 1);
        told("an image lasts", x, 45, 6, 5, 2, 3, 15, 1);
        due("image 0 anew", x.image(0), 1);
        x.machine(9, 1, 3);
        due("restore 0 anew", x.restore(0), 1);
        told("the newer image", x, 45, 6, 5, 2, 3, 15, 1);
    }

    private static void promise19Told() {
        told("40 10 5", machine(40, 10, 5), 40, 10, 5, 2, 10, 4, 0);
        told("30 3 5", machine(30, 3, 5), 30, 3, 5, 5, 3, 10, 1);
        for (int what : new int[] {-1, 7, Integer.MIN_VALUE, Integer.MAX_VALUE}) {
            due("told " + what, new SlotStar().told(what), SlotStar.OUTSIDE);
        }
    }

    private static void refusedCallsChangeNothing() {
        SlotStar x = machine(30, 3, 5);
        x.width(4);
        x.image(1);
        int[] far = {Integer.MIN_VALUE, -7, 49, 100, Integer.MAX_VALUE};
        for (int f : far) {
            int[] answers = {x.machine(f, 1, 3), x.machine(12, f, 3), x.machine(12, 1, f), x.width(f), x.slot(f, 0), x.slot(0, f),
                x.phase(f, 0), x.phase(0, f), x.layer(f, 0), x.layer(0, f), x.each(f), x.own(f), x.sum(f, 1, 0), x.sum(0, 1, f),
                x.joined(f, 0), x.joined(0, f), x.partner(f), x.path(f, 1), x.path(0, f), x.image(f), x.restore(f), x.restore(0),
                x.turned(f, 0, 1), x.turned(0, f, 1), x.told(f)};
            for (int i = 0; i < answers.length; i++) {
                CHECK.holds("call " + i + " with " + f + " is refused", answers[i] < 0);
            }
            told("after refusals with " + f, x, 30, 3, 5, 4, 3, 10, 1);
            due("image 0 is not kept", x.restore(0), SlotStar.STATE);
        }
        x.machine(12, 1, 3);
        due("image 1 is kept", x.restore(1), 1);
        told("image 1 is as it was", x, 30, 3, 5, 4, 3, 10, 1);
    }

    public static void main(String[] args) {
        promise14Joined();
        promise15Partner();
        promise16Path();
        promises17And18Images();
        promise19Told();
        refusedCallsChangeNothing();
        CHECK.end();
    }
}
