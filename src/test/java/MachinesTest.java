/** Promises 1 to 8, by numbers worked out by hand. */
public final class MachinesTest {
    private static final Check CHECK = new Check("MachinesTest");

    private static void due(String call, int got, int want) {
        CHECK.due(call, got, want);
    }

    private static void told(String when, SlotStar x, int... want) {
        for (int what = 0; what < want.length; what++) {
            due(when + ": told " + what, x.told(what), want[what]);
        }
    }

    private static void promise1NewObject() {
        told("new", new SlotStar(), 12, 1, 3, 5, 1, 12, 1);
        due("new: own -1", new SlotStar().own(-1), 4);
        due("new: restore 0", new SlotStar().restore(0), SlotStar.STATE);
        due("new: restore 1", new SlotStar().restore(1), SlotStar.STATE);
        SlotStar one = new SlotStar();
        one.machine(9, 1, 3);
        told("another object is untouched", new SlotStar(), 12, 1, 3, 5, 1, 12, 1);
    }

    private static void promise2Machine() {
        SlotStar x = new SlotStar();
        due("machine 36 4 3", x.machine(36, 4, 3), 9);
        told("36 4 3", x, 36, 4, 3, 4, 4, 9, 1);
        due("machine 3 10 3", x.machine(3, 10, 3), 3);
        told("width is 1 at the least", x, 3, 10, 3, 1, 1, 3, 1);
        due("machine 48 10 5", x.machine(48, 10, 5), 24);
        told("48 10 5", x, 48, 10, 5, 2, 2, 24, 0);
        due("machine 10 10 5", x.machine(10, 10, 5), 1);
        told("one turn", x, 10, 10, 5, 1, 10, 1, 0);
        due("machine 3 1 5", x.machine(3, 1, 5), 3);
        told("3 1 5", x, 3, 1, 5, 1, 1, 3, 0);
        due("own follows the machine", x.own(-1), 2);
        x.machine(20, 2, 5);
        int[][] wrong = {{2, 1, 3}, {49, 1, 3}, {12, 0, 3}, {12, 11, 3}, {12, 1, 2}, {12, 1, 4}, {12, 1, 6}, {12, 1, 0},
            {-12, 1, 3}, {12, -1, 3}, {12, 1, -3}, {Integer.MIN_VALUE, 1, 3}, {12, Integer.MAX_VALUE, 3}, {12, 1, Integer.MIN_VALUE}};
        for (int[] w : wrong) {
            due("machine " + w[0] + " " + w[1] + " " + w[2], x.machine(w[0], w[1], w[2]), SlotStar.OUTSIDE);
            told("refused machine", x, 20, 2, 5, 5, 2, 10, 1);
        }
    }

    private static void promise3Width() {
        SlotStar x = new SlotStar();
        due("width 1", x.width(1), 5);
        due("width 11", x.width(11), 1);
        for (int w : new int[] {0, 12, -1, Integer.MAX_VALUE, Integer.MIN_VALUE}) {
            due("width " + w, x.width(w), SlotStar.OUTSIDE);
        }
        due("told 3 after refusals", x.told(3), 11);
        x.machine(3, 1, 3);
        due("width 2 of 3 slots", x.width(2), 1);
        due("width 3 of 3 slots", x.width(3), SlotStar.OUTSIDE);
        x.machine(10, 1, 3);
        due("width where the machine is not balanced", x.width(7), 5);
    }

    private static void promise4Lacking() {
        SlotStar x = new SlotStar();
        due("lacking 12 1 3", x.lacking(), 1);
        x.machine(12, 1, 5);
        due("lacking 12 1 5", x.lacking(), 5);
        x.machine(12, 3, 3);
        due("lacking 12 3 3", x.lacking(), 3);
        x.machine(9, 3, 3);
        due("lacking 9 3 3", x.lacking(), 1);
        x.machine(25, 5, 5);
        due("lacking 25 5 5", x.lacking(), 1);
        x.machine(5, 5, 5);
        due("lacking 5 5 5", x.lacking(), 5);
    }

    /** 24 slots, 2 pairs, 3 phases: T 2, N 12, two turns in each zone; width 6. */
    private static void promise5Slot() {
        SlotStar x = new SlotStar();
        x.machine(24, 2, 3);
        int[] phases = {0, 0, 2, 2, 1, 1, 0, 0, 2, 2, 1, 1};
        for (int k = 0; k < 24; k++) {
            int v = k % 12;
            due("turn of " + k, x.slot(k, 0), v);
            due("copy of " + k, x.slot(k, 1), k / 12);
            due("zone of " + k, x.slot(k, 2), v / 2);
            due("phase of " + k, x.slot(k, 3), phases[v]);
            due("forward " + k, x.slot(k, 4), v / 2 % 2 == 0 ? 1 : 0);
            due("end of " + k, x.slot(k, 5), k < 18 ? k + 6 : k - 18);
            due("ends in " + k, x.slot(k, 6), k >= 6 ? k - 6 : k + 18);
        }
        x.machine(9, 4, 3);
        int[] turns = {0, 4, 8, 3, 7, 2, 6, 1, 5};
        int[] zones = {0, 2, 5, 2, 4, 1, 4, 0, 3};
        for (int k = 0; k < 9; k++) {
            due("9 4 3: turn of " + k, x.slot(k, 0), turns[k]);
            due("9 4 3: zone of " + k, x.slot(k, 2), zones[k]);
        }
        x.machine(10, 1, 5);
        int[] five = {0, 3, 1, 4, 2, 0, 3, 1, 4, 2};
        for (int k = 0; k < 10; k++) {
            due("10 1 5: phase of " + k, x.slot(k, 3), five[k]);
        }
    }

    private static void promise5Refusals() {
        SlotStar x = new SlotStar();
        due("slot -1 0", x.slot(-1, 0), SlotStar.UNKNOWN);
        due("slot 12 0", x.slot(12, 0), SlotStar.UNKNOWN);
        due("slot 12 7", x.slot(12, 7), SlotStar.UNKNOWN);
        due("slot 11 7", x.slot(11, 7), SlotStar.OUTSIDE);
        due("slot 11 -1", x.slot(11, -1), SlotStar.OUTSIDE);
        x.machine(10, 1, 3);
        int[] unbalanced = {9, 0, SlotStar.STATE, SlotStar.STATE, SlotStar.STATE, 4, 4};
        for (int what = 0; what < 7; what++) {
            due("unbalanced: slot 9 " + what, x.slot(9, what), unbalanced[what]);
        }
        due("unbalanced: slot 10 3", x.slot(10, 3), SlotStar.UNKNOWN);
        due("unbalanced: slot 9 7", x.slot(9, 7), SlotStar.OUTSIDE);
    }

    private static void promise6Phase() {
        SlotStar x = new SlotStar();
        x.machine(9, 1, 3);
        for (int a = 0; a < 3; a++) {
            due("9 1 3: phase " + a + " 0", x.phase(a, 0), 3);
            due("9 1 3: phase " + a + " 1", x.phase(a, 1), 2);
            due("9 1 3: phase " + a + " 2", x.phase(a, 2), 1);
        }
        due("phase 3 is none of three", x.phase(3, 0), SlotStar.UNKNOWN);
        due("phase -1", x.phase(-1, 9), SlotStar.UNKNOWN);
        due("phase 0 3", x.phase(0, 3), SlotStar.OUTSIDE);
        due("phase 0 -1", x.phase(0, -1), SlotStar.OUTSIDE);
        x.machine(40, 4, 5);
        due("40 4 5: phase 4 0", x.phase(4, 0), 8);
        due("40 4 5: phase 4 1", x.phase(4, 1), 4);
        due("40 4 5: phase 4 2", x.phase(4, 2), 4);
        x.machine(12, 1, 5);
        due("unbalanced: phase 5 0", x.phase(5, 0), SlotStar.UNKNOWN);
        due("unbalanced: phase 4 3", x.phase(4, 3), SlotStar.OUTSIDE);
        due("unbalanced: phase 4 0", x.phase(4, 0), SlotStar.STATE);
    }

    /** Six slots, one in each zone: above 0+ 2- 1+ 0- 2+ 1-. */
    private static void promise7Layer() {
        SlotStar x = new SlotStar();
        x.machine(6, 1, 3);
        int[] above = {1, 20, 11, 0, 21, 10};
        int[] belowAtThree = {1, 20, 11, 0, 21, 10};
        int[] belowAtTwo = {20, 11, 0, 21, 10, 1};
        for (int k = 0; k < 6; k++) {
            due("above in " + k, x.layer(k, 0), above[k]);
            due("below in " + k, x.layer(k, 1), belowAtThree[k]);
        }
        x.width(2);
        for (int k = 0; k < 6; k++) {
            due("width 2: above in " + k, x.layer(k, 0), above[k]);
            due("width 2: below in " + k, x.layer(k, 1), belowAtTwo[k]);
        }
        due("layer 6 2", x.layer(6, 2), SlotStar.UNKNOWN);
        due("layer -1 0", x.layer(-1, 0), SlotStar.UNKNOWN);
        due("layer 0 2", x.layer(0, 2), SlotStar.OUTSIDE);
        due("layer 0 -1", x.layer(0, -1), SlotStar.OUTSIDE);
        x.machine(7, 1, 3);
        due("unbalanced: layer 6 0", x.layer(6, 0), SlotStar.STATE);
        due("unbalanced: layer 6 1", x.layer(6, 1), SlotStar.STATE);
        due("unbalanced: layer 6 2", x.layer(6, 2), SlotStar.OUTSIDE);
        due("unbalanced: layer 7 0", x.layer(7, 0), SlotStar.UNKNOWN);
    }

    private static void promise8Each() {
        int[][] rows = {{12, 1, 3, 2, 1}, {9, 4, 3, 3, 8}, {48, 10, 5, 12, 25}, {3, 10, 5, 3, 100}, {47, 10, 3, 47, 60}, {6, 1, 3, 1, 1}, {10, 1, 3, 5, 3}};
        SlotStar x = new SlotStar();
        for (int[] r : rows) {
            x.machine(r[0], r[1], r[2]);
            due("each 0 of " + r[0] + " " + r[1] + " " + r[2], x.each(0), r[3]);
            due("each 1 of " + r[0] + " " + r[1] + " " + r[2], x.each(1), r[4]);
        }
        due("each -1", x.each(-1), SlotStar.OUTSIDE);
        due("each 2", x.each(2), SlotStar.OUTSIDE);
    }

    public static void main(String[] args) {
        promise1NewObject();
        promise2Machine();
        promise3Width();
        promise4Lacking();
        promise5Slot();
        promise5Refusals();
        promise6Phase();
        promise7Layer();
        promise8Each();
        CHECK.end();
    }
}
