import java.io.IOException;

/** The boundaries that promises 14 to 19 name, and those of 'Terms' that these calls meet first. */
public final class EdgesOfLayerTest {
    private static final int UNKNOWN = SlotStar.UNKNOWN, OUTSIDE = SlotStar.OUTSIDE, STATE = SlotStar.STATE, NO = SlotStar.NO;
    private static Edges e;

    private static void promise14Refusals() {
        e.sentence(14, "UNKNOWN -1 (there is no such SLOT, PHASE)");
        e.edges("", "joined # 0", UNKNOWN, 0, 10, 2, 10);
        e.edges("machine 10 1 5", "joined # 0", UNKNOWN, 0, 5, 4, 5);
        e.edges("machine 10 1 5, machine 6 1 3", "joined # 2", UNKNOWN, 0, 1, 2, 1);

        e.sentence(14, "the WAYS together (what = 0), the shift (1), how many (2)");
        e.edges("", "joined 0 #", OUTSIDE, 0, 10, 2, 2);

        e.sentence(14, "STATE -3 (as told: the machine is not BALANCED, if nothing else is told)");
        for (int what = 0; what < 3; what++) {
            e.refused("machine 10 1 3", "joined 0 " + what, STATE);
            e.refused("machine 12 1 5", "joined 4 " + what, STATE);
        }

        e.sentence(14, "NO: it can not be.");
        for (int what = 0; what < 3; what++) {
            e.refused("machine 9 1 3", "joined 0 " + what, NO);
            e.refused("machine 3 1 3", "joined 2 " + what, NO);
            e.refused("machine 5 1 5", "joined 4 " + what, NO);
            e.refused("machine 45 1 5", "joined 0 " + what, NO);
            e.refused("machine 36 4 3", "joined 1 " + what, NO);
        }
        e.taken("machine 6 1 3", "joined 0 2", 1);
        e.taken("machine 9 1 3, machine 6 1 3", "joined 0 1", 0);

        e.sentence(14, "UNKNOWN; OUTSIDE; STATE; NO");
        e.refused("", "joined 3 3", UNKNOWN);
        e.refused("machine 9 1 3", "joined 3 0", UNKNOWN);
        e.refused("machine 9 1 3", "joined -1 -1", UNKNOWN);
        e.refused("machine 9 1 3", "joined 2 3", OUTSIDE);
        e.refused("machine 9 1 3", "joined 2 -1", OUTSIDE);
        e.refused("machine 7 1 3", "joined 3 0", UNKNOWN);
        e.refused("machine 7 1 3", "joined 3 3", UNKNOWN);
        e.refused("machine 7 1 3", "joined 2 3", OUTSIDE);
        e.refused("machine 7 1 3", "joined 2 2", STATE);
        // Two SLOTS FORWARD and one BACK, by the ZONES that a BALANCED machine would have: STATE and NO fit.
        e.refused("machine 7 1 3", "joined 0 2", STATE);
        e.refused("machine 3 3 3", "joined 0 0", STATE);
        e.refused("machine 3 3 3", "joined 1 0", STATE);
    }

    private static void joined(String machine, int phase, int ways, int shift, int many) {
        e.taken(machine, "joined " + phase + " 0", ways);
        e.taken(machine, "joined " + phase + " 1", shift);
        e.taken(machine, "joined " + phase + " 2", many);
    }

    private static void promise14Shifts() {
        e.sentence(14, "with a shift s (0 to one less than how many)");
        joined("machine 6 1 3", 0, 3, 0, 1);
        // FORWARD 0, 1, 12, 13, BACK 6, 7, 18, 19: shifts 0 to 3 make 24, 28, 24, 20.
        joined("machine 24 2 3", 0, 20, 3, 4);
        // FORWARD 0, 1 and three copies by 12; BACK 6, 7 and so on: 13 to 18, 12 to 7, 0 to 43 are 5 each.
        joined("machine 48 4 3", 0, 40, 7, 8);

        e.sentence(14, "WAY of two SLOTS: how far, the shorter way round.");
        joined("machine 10 1 5", 4, 5, 0, 1);
        // FORWARD 0, 7 and BACK 1, 6: 0 to 1, 7 to 6.
        joined("machine 12 7 3", 0, 2, 0, 2);
        // FORWARD 0, 5 and BACK 6, 11: 0 to 11 is 1 the other way round.
        joined("machine 12 5 3", 0, 2, 1, 2);

        e.sentence(14, "The shift of the least WAYS together (of as little the least s) is taken.");
        // FORWARD 0, 6 and BACK 3, 9: both shifts make 6.
        joined("machine 12 2 3", 0, 6, 0, 2);
        // FORWARD 0, 1, 2 and BACK 9, 10, 11: shifts 0 to 2 make 27, 23, 23.
        joined("machine 18 1 3", 0, 23, 1, 3);
        joined("machine 48 8 3", 2, 24, 0, 8);
        // Shift 0 again after another PHASE, and another machine, took the greatest one.
        joined("machine 24 2 3, joined 0 1, machine 12 2 3", 0, 6, 0, 2);
        joined("machine 12 5 3, joined 0 1", 1, 2, 0, 2);
    }

    private static void promise15() {
        e.sentence(15, "UNKNOWN -1 (there is no such SLOT, PHASE)");
        e.edges("", "partner #", UNKNOWN, 0, 7, 11, 4);
        e.edges("machine 6 1 3", "partner #", UNKNOWN, 0, 3, 5, 2);
        e.edges("machine 48 8 3", "partner #", UNKNOWN, 0, 3, 47, 44);
        e.edges("machine 48 8 3, machine 6 1 3", "partner #", UNKNOWN, 0, 3, 5, 2);

        e.sentence(15, "STATE -3 (as told: the machine is not BALANCED, if nothing else is told)");
        e.refused("machine 10 1 3", "partner 0", STATE);
        e.refused("machine 10 1 3", "partner 9", STATE);
        e.refused("machine 12 1 5", "partner 11", STATE);

        e.sentence(15, "NO: its PHASE can not be.");
        for (int k = 0; k < 9; k++) e.refused("machine 9 1 3", "partner " + k, NO);
        for (int k = 0; k < 3; k++) e.refused("machine 3 1 3", "partner " + k, NO);
        e.refused("machine 30 4 5", "partner 29", NO);

        e.sentence(15, "UNKNOWN; STATE; NO");
        e.refused("machine 9 1 3", "partner 9", UNKNOWN);
        e.refused("machine 9 1 3", "partner -1", UNKNOWN);
        e.refused("machine 7 1 3", "partner 7", UNKNOWN);
        e.refused("machine 7 1 3", "partner 6", STATE);
        e.refused("machine 7 1 3", "partner 0", STATE);
        e.refused("machine 3 3 3", "partner 0", STATE);

        e.sentence(15, "i and s, left over by how many there are");
        int[][] pairs = {{0, 19}, {1, 6}, {12, 7}, {13, 18}};
        for (int[] pair : pairs) {
            e.taken("machine 24 2 3", "partner " + pair[0], pair[1]);
            e.taken("machine 24 2 3", "partner " + pair[1], pair[0]);
        }
        e.taken("machine 24 2 3, partner 0, machine 12 2 3", "partner 0", 3);
        e.taken("machine 24 2 3, partner 0, machine 12 2 3", "partner 3", 0);
        int[][] three = {{0, 10}, {1, 11}, {2, 9}};
        for (int[] pair : three) {
            e.taken("machine 18 1 3", "partner " + pair[0], pair[1]);
            e.taken("machine 18 1 3", "partner " + pair[1], pair[0]);
        }
    }

    private static void promise16() {
        e.sentence(16, "UNKNOWN -1 (there is no such SLOT, PHASE)");
        e.edges("", "path # 1", UNKNOWN, 0, 0, 11, 0);
        e.edges("machine 40 10 3", "path # 10", UNKNOWN, 0, 0, 39, 9);
        e.edges("machine 40 10 3, machine 3 1 3", "path # 1", UNKNOWN, 0, 0, 2, 0);

        e.sentence(16, "OUTSIDE: 1 to 10");
        e.edges("machine 40 10 3", "path 39 #", OUTSIDE, 1, 0, 10, 9);
        e.edges("machine 10 10 5", "path 9 #", OUTSIDE, 1, 0, 10, 9);

        e.sentence(16, "NO: A does not divide T.");
        for (int a : new int[] {3, 4, 6, 7, 8, 9}) e.refused("machine 40 10 3", "path 39 " + a, NO);
        e.taken("machine 40 10 3", "path 39 2", 1);
        e.taken("machine 40 10 3", "path 39 5", 4);
        e.taken("", "path 11 1", 0);
        for (int a = 2; a <= 10; a++) e.refused("", "path 11 " + a, NO);
        e.taken("machine 48 9 3", "path 47 3", 2);
        e.refused("machine 48 9 3", "path 47 9", NO);

        e.sentence(16, "UNKNOWN; OUTSIDE: 1 to 10; NO");
        e.refused("machine 40 10 3", "path 40 0", UNKNOWN);
        e.refused("machine 40 10 3", "path 40 11", UNKNOWN);
        e.refused("machine 40 10 3", "path 40 3", UNKNOWN);
        e.refused("machine 40 10 3", "path -1 3", UNKNOWN);
        e.refused("machine 40 10 3", "path 39 11", OUTSIDE);
        e.refused("machine 40 10 3", "path 39 -3", OUTSIDE);

        e.sentence(16, "its COPY, left over by A");
        e.taken("machine 40 10 3", "path 3 5", 0);
        e.taken("machine 40 10 3", "path 4 5", 1);
        e.taken("machine 40 10 3", "path 19 5", 4);
        e.taken("machine 40 10 3", "path 20 5", 0);
        e.taken("machine 40 10 3", "path 4 2", 1);
        e.taken("machine 40 10 3", "path 8 2", 0);
    }

    private static void promise17() {
        e.sentence(17, "kept in an IMAGE (0, 1): 1.");
        e.edges("", "image #", OUTSIDE, 0, 1, 1, 1);
        e.edges("machine 8 1 3", "image #", OUTSIDE, 0, 1, 1, 1);
        e.taken("image 0", "image 0", 1);
        e.told("width 11, image 0", 12, 1, 3, 11, 1, 12, 1);

        e.sentence(17, "The MACHINE, its WIDTH are kept");
        e.told("machine 48 10 5, width 47, image 0, machine 3 1 3, restore 0", 48, 10, 5, 47, 2, 24, 0);
        e.told("machine 3 10 3, image 1, machine 48 1 5, restore 1", 3, 10, 3, 1, 1, 3, 1);
        e.told("image 0, machine 9 1 3, image 1, machine 10 1 5, restore 0", 12, 1, 3, 5, 1, 12, 1);
        e.told("image 0, machine 9 1 3, image 1, machine 10 1 5, restore 0, restore 1", 9, 1, 3, 4, 1, 9, 1);
        e.told("image 1, machine 9 1 3, image 1, machine 10 1 5, restore 1", 9, 1, 3, 4, 1, 9, 1);
        e.told("image 0, machine 9 1 3, image 2, image -1, machine 10 1 5, restore 0", 12, 1, 3, 5, 1, 12, 1);
    }

    private static void promise18() {
        e.sentence(18, "They are as they were when they were kept: 1.");
        e.edges("image 0, image 1, machine 9 1 3", "restore #", OUTSIDE, 0, 1, 1, 1);
        e.told("image 0, width 11, restore 0", 12, 1, 3, 5, 1, 12, 1);
        e.told("width 11, image 0, width 1, machine 8 1 3, restore 0", 12, 1, 3, 11, 1, 12, 1);
        e.told("image 0, restore 0, machine 9 1 3, restore 0", 12, 1, 3, 5, 1, 12, 1);
        e.told("image 0, machine 9 1 3, restore 0, width 2, restore 0", 12, 1, 3, 5, 1, 12, 1);
        e.refused("machine 3 1 3, image 0, machine 48 1 5, restore 0", "slot 3 0", UNKNOWN);
        e.refused("machine 3 1 3, image 0, machine 48 1 5, restore 0", "phase 3 0", UNKNOWN);
        e.taken("image 0, machine 8 1 3, restore 0", "sum 0 1 3", -2);
        e.taken("image 0, machine 9 1 3, restore 0", "partner 11", 4);

        e.sentence(18, "STATE: they were not.");
        neverKept(0, 1);
        neverKept(1, 0);

        e.sentence(18, "OUTSIDE; STATE: they were not.");
        for (int n : new int[] {-1, 2, Integer.MIN_VALUE, Integer.MAX_VALUE}) e.refusedUnkept("", "restore " + n, OUTSIDE);
    }

    /** Neither the other IMAGE nor refused calls keep anything. */
    private static void neverKept(int image, int other) {
        String restore = "restore " + image;
        for (String given : new String[] {"", "machine 9 1 3", "image 2, image -1", restore, "image " + other,
            "image " + other + ", machine 9 1 3, restore " + other}) {
            e.refusedUnkept(given, restore, STATE);
            String kept = given.isEmpty() ? "image " + image : given + ", image " + image;
            e.taken(kept, restore, 1);
        }
    }

    private static void promise19() {
        e.sentence(19, "0 Q, 1 P, 2 M, 3 WIDTH, 4 T, 5 N, 6 BALANCED (1, 0)");
        e.edges("", "told #", OUTSIDE, 0, 12, 6, 1);
        e.edges("machine 10 1 3", "told #", OUTSIDE, 0, 10, 6, 0);
        e.told("machine 3 1 3", 3, 1, 3, 1, 1, 3, 1);
        e.told("machine 48 10 5, width 47", 48, 10, 5, 47, 2, 24, 0);
        e.told("machine 10 10 3", 10, 10, 3, 1, 10, 1, 0);
        e.told("machine 45 9 5", 45, 9, 5, 2, 9, 5, 1);
    }

    public static void main(String[] args) throws IOException {
        e = new Edges("EdgesOfLayerTest", 14, 19);
        promise14Refusals();
        promise14Shifts();
        promise15();
        promise16();
        promise17();
        promise18();
        promise19();
        e.end();
    }
}
