import java.io.IOException;

/** The boundaries that promises 1 to 8 name, and those of 'Terms' that these calls meet first. */
public final class EdgesOfMachinesTest {
    private static final int UNKNOWN = SlotStar.UNKNOWN, OUTSIDE = SlotStar.OUTSIDE, STATE = SlotStar.STATE;
    private static Edges e;

    private static void promise1() {
        e.sentence(1, "Twelve SLOTS, one pair of poles, three PHASES, WIDTH 5.");
        e.told("", 12, 1, 3, 5, 1, 12, 1);
        e.edges("", "slot # 5", UNKNOWN, 0, 5, 11, 4);
        e.edges("", "phase # 0", UNKNOWN, 0, 4, 2, 4);
        e.taken("", "width 11", 5);

        e.sentence(1, "A new object");
        e.refusedUnkept("", "restore 0", STATE);
        e.refusedUnkept("", "restore 1", STATE);

        e.sentence(1, "An object is used for at most 512 calls after it has been made");
        SlotStar x = new SlotStar();
        e.due("", "image 1", x.image(1), 1);
        e.due("", "machine 48 1 3", x.machine(48, 1, 3), 48);
        for (int calls = 2; calls < 510; calls++) {
            e.due(calls + " calls", "width", x.width(1 + calls % 47), calls == 2 ? 24 : 1 + (calls - 1) % 47);
        }
        e.due("510 calls", "restore 1", x.restore(1), 1);
        e.due("511 calls", "told 3", x.told(3), 5);
    }

    private static void promise2() {
        e.sentence(2, "Q 3 to 48");
        e.edges("", "machine # 1 3", OUTSIDE, 3, 3, 48, 48);
        e.edges("machine 20 2 5", "machine # 10 5", OUTSIDE, 3, 3, 48, 24);
        e.refused("", "machine 0 1 3", OUTSIDE);
        e.refused("", "machine -12 1 3", OUTSIDE);

        e.sentence(2, "P pairs of poles (1 to 10)");
        e.edges("", "machine 12 # 3", OUTSIDE, 1, 12, 10, 6);
        e.edges("machine 20 2 5", "machine 3 # 5", OUTSIDE, 1, 3, 10, 3);
        e.refused("", "machine 12 -1 3", OUTSIDE);

        e.sentence(2, "M PHASES (3 or 5)");
        e.edges("", "machine 15 1 #", OUTSIDE, 3, 15, 5, 15);
        for (int m : new int[] {-5, -3, 0, 1, 4, 7, 15}) e.refused("", "machine 15 1 " + m, OUTSIDE);

        e.sentence(2, "OUTSIDE -2 (another number is not as told)");
        e.refused("machine 20 2 5", "machine 2 0 4", OUTSIDE);
        e.refused("machine 20 2 5", "machine 49 11 6", OUTSIDE);
        e.refused("machine 20 2 5", "machine 12 0 2", OUTSIDE);

        e.sentence(2, "the WIDTH is Q by 2 P, cut, 1 at the least");
        int[][] widths = {{48, 1, 24}, {47, 1, 23}, {3, 1, 1}, {4, 1, 2}, {5, 1, 2}, {3, 10, 1}, {19, 10, 1}, {20, 10, 1}, {21, 10, 1},
            {39, 10, 1}, {40, 10, 2}, {41, 10, 2}, {48, 10, 2}, {11, 6, 1}, {12, 6, 1}, {23, 6, 1}, {24, 6, 2}};
        for (int[] w : widths) {
            e.taken("machine " + w[0] + " " + w[1] + " 3", "told 3", w[2]);
            e.taken("width 11, machine " + w[0] + " " + w[1] + " 5", "told 3", w[2]);
        }
        e.taken("machine 12 1 3", "told 3", 6);

        e.sentence(2, "COPIES T: the greatest common divisor of Q and P; the STAR has N turns, Q by T.");
        int[][] stars = {{3, 1, 1, 3}, {3, 3, 3, 1}, {3, 9, 3, 1}, {3, 10, 1, 3}, {5, 10, 5, 1}, {10, 10, 10, 1}, {20, 10, 10, 2},
            {40, 10, 10, 4}, {47, 10, 1, 47}, {48, 1, 1, 48}, {48, 8, 8, 6}, {48, 9, 3, 16}, {48, 10, 2, 24}};
        for (int[] s : stars) {
            String machine = "machine " + s[0] + " " + s[1] + " 5";
            e.taken("", machine, s[3]);
            e.taken(machine, "told 4", s[2]);
            e.taken(machine, "told 5", s[3]);
        }
    }

    private static void promise3() {
        e.sentence(3, "a WIDTH (1 to Q less 1)");
        e.edges("", "width #", OUTSIDE, 1, 5, 11, 5);
        e.edges("machine 3 1 3", "width #", OUTSIDE, 1, 1, 2, 1);
        e.edges("machine 48 1 3", "width #", OUTSIDE, 1, 24, 47, 24);
        e.edges("machine 10 1 3", "width #", OUTSIDE, 1, 5, 9, 5);
        e.edges("machine 48 1 3, width 47, machine 3 1 3", "width #", OUTSIDE, 1, 1, 2, 1);
        e.edges("image 0, machine 3 1 3, restore 0", "width #", OUTSIDE, 1, 5, 11, 5);

        e.sentence(3, "The WIDTH: which it was.");
        e.taken("width 1", "width 11", 1);
        e.taken("width 11", "width 1", 11);
        e.taken("width 7", "width 7", 7);
        e.taken("width 7, width 12", "width 3", 7);
        e.taken("width 7, width 0", "told 3", 7);
        e.taken("width 1", "told 3", 1);
        e.taken("width 11", "told 3", 11);
    }

    private static void promise4() {
        e.sentence(4, "LACKING: M by the greatest common divisor of N and M (1: BALANCED).");
        int[][] rows = {{12, 1, 3, 1}, {3, 1, 3, 1}, {3, 3, 3, 3}, {3, 1, 5, 5}, {5, 1, 5, 1}, {5, 5, 5, 5}, {5, 10, 5, 5}, {10, 1, 3, 3},
            {10, 10, 5, 5}, {25, 5, 5, 1}, {25, 10, 5, 1}, {45, 9, 3, 3}, {45, 9, 5, 1}, {45, 5, 5, 5}, {45, 5, 3, 1}, {48, 1, 3, 1}, {48, 1, 5, 5}};
        for (int[] r : rows) {
            String machine = "machine " + r[0] + " " + r[1] + " " + r[2];
            e.taken(machine, "lacking", r[3]);
            e.taken(machine, "told 6", r[3] == 1 ? 1 : 0);
        }
    }

    private static void promise5Refusals() {
        e.sentence(5, "SLOTS 0 to Q less 1");
        int[] atZero = {0, 0, 0, 0, 1, 5, 7};
        int[] atEleven = {11, 0, 5, 1, 0, 4, 6};
        for (int what = 0; what < 7; what++) e.edges("", "slot # " + what, UNKNOWN, 0, atZero[what], 11, atEleven[what]);
        e.edges("machine 3 1 3", "slot # 0", UNKNOWN, 0, 0, 2, 2);
        e.edges("machine 48 1 3", "slot # 0", UNKNOWN, 0, 0, 47, 47);
        e.edges("machine 48 1 3, machine 3 1 5", "slot # 0", UNKNOWN, 0, 0, 2, 2);
        e.edges("machine 3 1 3, machine 48 1 5", "slot # 0", UNKNOWN, 0, 0, 47, 47);

        e.sentence(5, "TURN (what = 0)");
        e.edges("", "slot 0 #", OUTSIDE, 0, 0, 6, 7);
        e.edges("machine 10 1 3", "slot 9 #", OUTSIDE, 0, 9, 6, 4);

        e.sentence(5, "STATE (2, 3, 4)");
        for (String machine : new String[] {"machine 10 1 3", "machine 12 1 5", "machine 12 3 3"}) {
            e.taken(machine, "slot 1 1", 0);
            for (int what = 2; what <= 4; what++) {
                e.refused(machine, "slot 0 " + what, STATE);
                e.refused(machine, "slot 9 " + what, STATE);
            }
            e.taken("width 1, " + machine + ", width 2", "slot 0 5", 2);
        }

        e.sentence(5, "UNKNOWN; OUTSIDE; STATE (2, 3, 4).");
        e.refused("", "slot 12 7", UNKNOWN);
        e.refused("", "slot -1 -1", UNKNOWN);
        e.refused("machine 10 1 3", "slot 10 2", UNKNOWN);
        e.refused("machine 10 1 3", "slot -1 4", UNKNOWN);
        e.refused("machine 10 1 3", "slot 10 7", UNKNOWN);
        e.refused("machine 10 1 3", "slot 9 7", OUTSIDE);
    }

    private static void promise5Coils() {
        e.sentence(5, "ends so many SLOTS on as the WIDTH tells (round and round)");
        int[][] ends = {{12, 5, 6, 11}, {12, 5, 7, 0}, {12, 5, 11, 4}, {12, 1, 10, 11}, {12, 1, 11, 0}, {12, 11, 0, 11}, {12, 11, 1, 0},
            {12, 11, 11, 10}, {48, 47, 0, 47}, {48, 47, 1, 0}, {48, 47, 47, 46}, {3, 2, 0, 2}, {3, 2, 1, 0}, {3, 2, 2, 1}, {10, 9, 9, 8}};
        for (int[] r : ends) {
            String given = "machine " + r[0] + " 1 3, width " + r[1];
            e.taken(given, "slot " + r[2] + " 5", r[3]);
            e.taken(given, "slot " + r[3] + " 6", r[2]);
        }

        e.sentence(5, "which COIL ends there (6)");
        e.taken("", "slot 5 6", 0);
        e.taken("", "slot 4 6", 11);
        e.taken("", "slot 0 6", 7);
        e.taken("width 11", "slot 0 6", 1);
        e.taken("width 1", "slot 0 6", 11);
    }

    private static void promise5Star() {
        e.sentence(5, "TURN of SLOT k: k times P, left over by Q, by T (0 to N less 1).");
        int[][] turns = {{12, 5, 2, 10}, {12, 5, 3, 3}, {12, 5, 11, 7}, {48, 10, 4, 20}, {48, 10, 5, 1}, {48, 10, 19, 23}, {48, 10, 47, 19},
            {10, 10, 0, 0}, {10, 10, 9, 0}, {3, 10, 1, 1}, {3, 10, 2, 2}, {47, 1, 46, 46}, {24, 2, 11, 11}, {24, 2, 12, 0}};
        for (int[] r : turns) e.taken("machine " + r[0] + " " + r[1] + " 3", "slot " + r[2] + " 0", r[3]);

        e.sentence(5, "COPY of SLOT k: k by N, cut (0 to T less 1)");
        int[][] copies = {{24, 2, 0, 0}, {24, 2, 11, 0}, {24, 2, 12, 1}, {24, 2, 23, 1}, {40, 10, 3, 0}, {40, 10, 4, 1}, {40, 10, 35, 8},
            {40, 10, 36, 9}, {40, 10, 39, 9}, {10, 10, 0, 0}, {10, 10, 9, 9}, {48, 1, 47, 0}};
        for (int[] r : copies) e.taken("machine " + r[0] + " " + r[1] + " 3", "slot " + r[2] + " 1", r[3]);

        e.sentence(5, "ZONE of a TURN v: 2 M v by N, cut (0 to 2 M less 1).");
        int[][] zones = {{9, 3, 0, 0}, {9, 3, 1, 0}, {9, 3, 2, 1}, {9, 3, 3, 2}, {9, 3, 4, 2}, {9, 3, 5, 3}, {9, 3, 8, 5}, {3, 3, 1, 2}, {3, 3, 2, 4},
            {48, 3, 7, 0}, {48, 3, 8, 1}, {48, 3, 39, 4}, {48, 3, 40, 5}, {48, 3, 47, 5}, {45, 5, 4, 0}, {45, 5, 5, 1}, {45, 5, 9, 2}, {45, 5, 40, 8},
            {45, 5, 41, 9}, {45, 5, 44, 9}, {5, 5, 4, 8}};
        for (int[] r : zones) e.taken("machine " + r[0] + " 1 " + r[1], "slot " + r[2] + " 2", r[3]);

        e.sentence(5, "else half of what the ZONE and M are together, left over by M: it is BACK (M 3: ZONES 0 to 5 are of PHASES 0, 2, 1, 0, 2, 1)");
        int[] three = {0, 2, 1, 0, 2, 1};
        int[] five = {0, 3, 1, 4, 2, 0, 3, 1, 4, 2};
        for (int zone = 0; zone < 6; zone++) zone("machine 6 1 3", zone, three[zone]);
        for (int zone = 0; zone < 10; zone++) zone("machine 10 1 5", zone, five[zone]);
    }

    /** In these machines each SLOT is the one of its ZONE. */
    private static void zone(String machine, int zone, int phase) {
        e.taken(machine, "slot " + zone + " 2", zone);
        e.taken(machine, "slot " + zone + " 3", phase);
        e.taken(machine, "slot " + zone + " 4", zone % 2 == 0 ? 1 : 0);
    }

    private static void promise6() {
        e.sentence(6, "M PHASES (3 or 5)");
        e.edges("", "phase # 0", UNKNOWN, 0, 4, 2, 4);
        e.edges("machine 15 1 5", "phase # 1", UNKNOWN, 0, 2, 4, 2);
        e.edges("machine 15 1 5, machine 15 1 3", "phase # 2", UNKNOWN, 0, 2, 2, 2);

        e.sentence(6, "how many SLOTS (what = 0), FORWARD (1), BACK (2)");
        e.edges("", "phase 0 #", OUTSIDE, 0, 4, 2, 2);
        counts("machine 3 1 3", 3, 1, 0);
        counts("machine 5 1 5", 5, 1, 0);
        counts("machine 9 1 3", 3, 2, 1);
        counts("machine 27 9 3", 3, 9, 0);
        counts("machine 48 1 3", 3, 8, 8);
        counts("machine 48 8 3", 3, 8, 8);
        counts("machine 45 1 5", 5, 5, 4);

        e.sentence(6, "STATE -3 (as told: the machine is not BALANCED, if nothing else is told)");
        for (int what = 0; what < 3; what++) {
            e.refused("machine 10 1 3", "phase 0 " + what, STATE);
            e.refused("machine 12 1 5", "phase 4 " + what, STATE);
        }

        e.sentence(6, "UNKNOWN; OUTSIDE; STATE.");
        e.refused("", "phase 3 3", UNKNOWN);
        e.refused("", "phase -1 -1", UNKNOWN);
        e.refused("machine 10 1 3", "phase 3 0", UNKNOWN);
        e.refused("machine 10 1 3", "phase 3 3", UNKNOWN);
        e.refused("machine 10 1 3", "phase 2 3", OUTSIDE);
        e.refused("machine 10 1 3", "phase 2 -1", OUTSIDE);
    }

    private static void counts(String machine, int phases, int forward, int back) {
        for (int a = 0; a < phases; a++) {
            e.taken(machine, "phase " + a + " 0", forward + back);
            e.taken(machine, "phase " + a + " 1", forward);
            e.taken(machine, "phase " + a + " 2", back);
        }
    }

    private static void promise7() {
        e.sentence(7, "SLOTS 0 to Q less 1");
        e.edges("", "layer # 0", UNKNOWN, 0, 1, 11, 10);
        e.edges("", "layer # 1", UNKNOWN, 0, 1, 11, 1);
        e.edges("machine 3 1 3", "layer # 0", UNKNOWN, 0, 1, 2, 21);
        e.edges("machine 48 1 3", "layer # 0", UNKNOWN, 0, 1, 47, 10);

        e.sentence(7, "above (layer = 0), below (1)");
        e.edges("", "layer 5 #", OUTSIDE, 0, 11, 1, 0);

        e.sentence(7, "1 if the COIL begins there FORWARD, or ends there BACK (else 0)");
        e.taken("", "layer 0 0", 1);
        e.taken("", "layer 6 0", 0);
        e.taken("", "layer 5 1", 0);
        e.taken("", "layer 11 1", 1);
        e.taken("machine 5 1 5", "layer 4 0", 41);
        e.taken("machine 5 1 5", "layer 1 1", 40);

        e.sentence(7, "In each SLOT its own COIL lies above, the one that ends there below.");
        e.taken("", "layer 4 1", 11);
        e.taken("width 1", "layer 0 1", 11);
        e.taken("width 1", "layer 1 1", 0);
        e.taken("width 11", "layer 10 1", 11);
        e.taken("width 11", "layer 11 1", 0);
        e.taken("width 11", "layer 0 1", 0);
        e.taken("width 11", "layer 1 1", 21);

        e.sentence(7, "STATE -3 (as told: the machine is not BALANCED, if nothing else is told)");
        e.refused("machine 10 1 3", "layer 0 0", STATE);
        e.refused("machine 10 1 3", "layer 9 1", STATE);

        e.sentence(7, "UNKNOWN; OUTSIDE; STATE.");
        e.refused("", "layer 12 2", UNKNOWN);
        e.refused("", "layer -1 -1", UNKNOWN);
        e.refused("machine 10 1 3", "layer 10 0", UNKNOWN);
        e.refused("machine 10 1 3", "layer 10 2", UNKNOWN);
        e.refused("machine 10 1 3", "layer 9 2", OUTSIDE);
        e.refused("machine 10 1 3", "layer 9 -1", OUTSIDE);
    }

    private static void promise8() {
        e.sentence(8, "the upper number (what = 0), the lower one (1)");
        e.edges("", "each #", OUTSIDE, 0, 2, 1, 1);
        e.edges("machine 10 1 3", "each #", OUTSIDE, 0, 5, 1, 3);

        e.sentence(8, "Q by 2 P M, in lowest terms");
        int[][] rows = {{6, 1, 3, 1, 1}, {48, 1, 3, 8, 1}, {3, 10, 3, 1, 20}, {3, 10, 5, 3, 100}, {47, 1, 3, 47, 6}, {47, 10, 5, 47, 100},
            {48, 10, 5, 12, 25}, {5, 1, 5, 1, 2}, {30, 1, 3, 5, 1}, {40, 4, 5, 1, 1}};
        for (int[] r : rows) {
            String machine = "machine " + r[0] + " " + r[1] + " " + r[2];
            e.taken(machine, "each 0", r[3]);
            e.taken(machine, "each 1", r[4]);
        }
    }

    public static void main(String[] args) throws IOException {
        e = new Edges("EdgesOfMachinesTest", 1, 8);
        promise1();
        promise2();
        promise3();
        promise4();
        promise5Refusals();
        promise5Coils();
        promise5Star();
        promise6();
        promise7();
        promise8();
        e.end();
    }
}
