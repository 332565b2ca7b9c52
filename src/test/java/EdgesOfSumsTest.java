import java.io.IOException;

/** The boundaries that promises 9 to 13 name, and those of 'Terms' that these calls meet first. */
public final class EdgesOfSumsTest {
    private static final int UNKNOWN = SlotStar.UNKNOWN, OUTSIDE = SlotStar.OUTSIDE, STATE = SlotStar.STATE, NONE = SlotStar.NONE;
    private static Edges e;

    private static void promise9() {
        e.sentence(9, "NONE: above DEGREE, below -1.");
        e.edges("", "own #", NONE, -1, 4, 4, 1);
        e.edges("machine 3 1 3", "own #", NONE, -1, 2, 2, 1);
        e.edges("machine 4 2 5", "own #", NONE, -1, 1, 1, 1);
        e.edges("machine 47 1 3", "own #", NONE, -1, 46, 46, 1);
        e.edges("machine 48 1 3", "own #", NONE, -1, 16, 16, 1);
        e.edges("machine 47 1 3, machine 3 3 3", "own #", NONE, -1, 1, 1, 1);
        e.edges("machine 3 3 3, machine 47 1 3", "own #", NONE, -1, 46, 46, 1);
        e.edges("image 0, machine 47 1 3, restore 0", "own #", NONE, -1, 4, 4, 1);

        e.sentence(9, "the number of x to the i in F(N)");
        e.taken("", "own 0", 1);
        e.taken("", "own 1", 0);
        e.taken("", "own 2", -1);
        e.taken("machine 10 1 3", "own 1", -1);
        e.taken("machine 10 1 3", "own 0", 1);

        e.sentence(9, "(F(1) is x less 1)");
        for (String machine : new String[] {"machine 3 3 3", "machine 10 10 5", "machine 5 10 5"}) {
            e.taken(machine, "own -1", 1);
            e.taken(machine, "own 0", -1);
            e.taken(machine, "own 1", 1);
            e.refused(machine, "own 2", NONE);
        }
    }

    private static void promise10Refusals() {
        e.sentence(10, "UNKNOWN -1 (there is no such SLOT, PHASE)");
        // Six SLOTS: PHASE 0 sums up to 4, PHASE 2 to 4 times x to the 4, which is -4 x.
        e.edges("machine 6 1 3", "sum # 1 0", UNKNOWN, 0, 4, 2, 0);
        e.edges("machine 6 1 3", "sum # 1 1", UNKNOWN, 0, 0, 2, -4);
        // Ten SLOTS, five PHASES: PHASE 4 sums up to 4 times x to the 8, which is -4 times x to the 3.
        e.edges("machine 10 1 5", "sum # 1 3", UNKNOWN, 0, 0, 4, -4);
        e.edges("machine 10 1 5, machine 6 1 3", "sum # 1 1", UNKNOWN, 0, 0, 2, -4);

        e.sentence(10, "a WAVE h (1 to 99)");
        e.edges("machine 6 1 3", "sum 0 # 0", OUTSIDE, 1, 4, 99, 4);
        e.edges("machine 3 1 3", "sum 0 # 0", OUTSIDE, 1, 1, 99, 0);

        e.sentence(10, "numbers 0 to DEGREE less 1");
        e.edges("", "sum 0 1 #", OUTSIDE, 0, 4, 3, -2);
        e.edges("machine 6 1 3", "sum 2 1 #", OUTSIDE, 0, 0, 1, -4);
        e.edges("machine 3 1 3", "sum 0 1 #", OUTSIDE, 0, 1, 1, -1);
        e.edges("machine 39 1 3", "sum 0 39 #", OUTSIDE, 0, 0, 23, 0);
        e.edges("machine 35 1 5", "sum 4 70 #", OUTSIDE, 0, 0, 23, 0);
        e.edges("machine 39 1 3, machine 3 1 3", "sum 0 1 #", OUTSIDE, 0, 1, 1, -1);

        e.sentence(10, "STATE -3 (as told: the machine is not BALANCED, if nothing else is told)");
        e.refused("machine 8 1 3", "sum 0 1 0", STATE);
        e.refused("machine 8 1 3", "sum 2 99 3", STATE);
        e.refused("machine 3 3 3", "sum 0 1 0", STATE);
        e.refused("machine 12 1 5", "sum 4 1 0", STATE);

        e.sentence(10, "In GONE: UNKNOWN; OUTSIDE: the WAVE, i (0 to DEGREE less 1); STATE.");
        e.refused("machine 6 1 3", "sum 3 0 2", UNKNOWN);
        e.refused("machine 6 1 3", "sum -1 100 0", UNKNOWN);
        e.refused("machine 6 1 3", "sum 3 1 -1", UNKNOWN);
        e.refused("machine 6 1 3", "sum 0 0 2", OUTSIDE);
        e.refused("machine 8 1 3", "sum 3 1 0", UNKNOWN);
        e.refused("machine 8 1 3", "sum 3 100 4", UNKNOWN);
        e.refused("machine 8 1 3", "sum 2 0 0", OUTSIDE);
        e.refused("machine 8 1 3", "sum 2 100 0", OUTSIDE);
        e.refused("machine 8 1 3", "sum 2 1 4", OUTSIDE);
        e.refused("machine 8 1 3", "sum 2 1 -1", OUTSIDE);
        e.refused("machine 3 3 3", "sum 0 1 1", OUTSIDE);

        e.sentence(10, "What is told of numbers of SUMS that are refused: GONE and the refusal.");
        e.taken("", "sum 3 1 0", -100001);
        e.taken("", "sum 0 0 0", -100002);
        e.taken("machine 8 1 3", "sum 0 1 0", -100003);
    }

    /** The numbers of a SUM, i from 0 on. */
    private static void numbers(String given, String phaseAndWave, int... want) {
        for (int i = 0; i < want.length; i++) e.taken(given, "sum " + phaseAndWave + " " + i, want[i]);
        e.refused(given, "sum " + phaseAndWave + " " + want.length, OUTSIDE);
    }

    private static void promise10Powers() {
        e.sentence(10, "powers left over by N");
        numbers("", "0 1", 4, 4, 0, -2);
        numbers("", "0 13", 4, 4, 0, -2);
        numbers("", "0 97", 4, 4, 0, -2);
        numbers("", "0 12", 0, 0, 0, 0);
        numbers("", "0 96", 0, 0, 0, 0);
        // PHASE 1 has SLOTS 4, 5, 10, 11: its COILS end in 9, 10, 3, 4, round and round.
        numbers("", "1 1", -4, -2, 4, 4);
        numbers("machine 3 1 3", "0 98", 2, 1);
        numbers("machine 3 1 3", "2 1", -2, -1);

        e.sentence(10, "of all its COILS of COPY 0");
        numbers("machine 12 2 3", "0 1", 4, 0);
        // SLOT 4 is of COPY 0, its COIL ends in SLOT 7, of COPY 1.
        numbers("machine 12 2 3", "2 1", 0, -4);
        numbers("machine 48 8 3", "2 1", 0, -4);

        e.sentence(10, "taken off 0 if it is BACK");
        // Nine SLOTS, WIDTH 1: 1 - x + x - x^2 - (x^5 - x^6), and x^6 is -1 - x^3.
        numbers("machine 9 1 3, width 1", "0 1", 0, 0, -1, -1, 0, -1);
    }

    private static void promise11() {
        e.sentence(11, "a WAVE h (1 to 99)");
        e.edges("", "vanishes #", OUTSIDE, 1, 0, 99, 0);
        e.edges("width 4", "vanishes #", OUTSIDE, 1, 0, 99, 1);

        e.sentence(11, "A WAVE VANISHES, if all numbers of the SUM of PHASE 0 are 0");
        // The SUMS are 4, 0 and 0, 0, -1, -1, 0, -1: neither the last nor the first number alone tells it.
        e.taken("machine 6 1 3", "vanishes 1", 0);
        e.taken("machine 9 1 3, width 1", "vanishes 1", 0);
        e.taken("machine 9 1 3", "vanishes 8", 0);
        e.taken("machine 9 1 3", "vanishes 9", 1);
        e.taken("machine 9 1 3", "vanishes 10", 0);
        e.taken("machine 9 1 3", "vanishes 98", 0);
        e.taken("machine 9 1 3", "vanishes 99", 1);
        e.taken("machine 48 1 3", "vanishes 48", 1);
        e.taken("machine 48 1 3", "vanishes 47", 0);

        e.sentence(11, "(so are all PHASES' then)");
        for (int phase = 0; phase < 3; phase++) numbers("width 4", phase + " 3", 0, 0, 0, 0);

        e.sentence(11, "STATE -3 (as told: the machine is not BALANCED, if nothing else is told)");
        e.refused("machine 8 1 3", "vanishes 1", STATE);
        e.refused("machine 8 1 3", "vanishes 99", STATE);
        e.refused("machine 3 3 3", "vanishes 1", STATE);

        e.sentence(11, "OUTSIDE; STATE.");
        e.refused("machine 8 1 3", "vanishes 0", OUTSIDE);
        e.refused("machine 8 1 3", "vanishes 100", OUTSIDE);
    }

    private static void promise12() {
        e.sentence(12, "a WAVE h (1 to 99)");
        e.edges("", "choose #", OUTSIDE, 1, NONE, 99, 4);

        e.sentence(12, "The greatest WIDTH, no more than Q by 2 P, cut (1 at the least), by which a WAVE VANISHES");
        e.taken("width 8", "vanishes 3", 1);
        e.taken("", "choose 3", 4);
        e.taken("width 11", "choose 3", 4);
        e.taken("", "choose 2", 6);
        e.taken("", "choose 12", 6);
        e.taken("machine 9 1 3", "choose 9", 4);
        e.taken("machine 48 1 3", "choose 48", 24);
        e.taken("machine 3 1 3", "choose 3", 1);
        e.taken("machine 42 10 3", "choose 21", 2);
        e.taken("machine 39 10 3", "choose 39", 1);
        e.taken("machine 21 10 3", "choose 21", 1);
        // Q by 2 P is 0 here.
        e.taken("machine 3 10 3", "choose 3", 1);
        e.taken("machine 15 8 5", "choose 15", 1);
        e.taken("machine 3 10 3, width 2", "told 3", 2);

        e.sentence(12, "NONE: there is none.");
        e.taken("", "choose 1", NONE);
        e.taken("machine 3 10 3", "choose 1", NONE);
        e.taken("machine 48 1 3", "choose 1", NONE);
        // WIDTH 3 would do, but no more than 1 is asked for.
        e.taken("machine 9 4 3, width 3", "vanishes 3", 1);
        e.taken("machine 9 4 3, width 3", "choose 3", NONE);

        e.sentence(12, "STATE -3 (as told: the machine is not BALANCED, if nothing else is told)");
        e.refused("machine 8 1 3", "choose 1", STATE);
        e.refused("machine 8 1 3", "choose 99", STATE);

        e.sentence(12, "OUTSIDE; STATE.");
        e.refused("machine 8 1 3", "choose 0", OUTSIDE);
        e.refused("machine 8 1 3", "choose 100", OUTSIDE);
    }

    private static void promise13Refusals() {
        e.sentence(13, "UNKNOWN: both");
        e.edges("", "turned # 0 1", UNKNOWN, 0, 0, 2, 4);
        e.edges("", "turned 0 # 1", UNKNOWN, 0, 0, 2, 8);
        e.edges("machine 10 1 5", "turned # 0 1", UNKNOWN, 0, 0, 4, 2);
        e.edges("machine 10 1 5", "turned 0 # 1", UNKNOWN, 0, 0, 4, 8);
        e.refused("", "turned 3 3 1", UNKNOWN);
        e.refused("", "turned -1 3 1", UNKNOWN);

        e.sentence(13, "a WAVE h (1 to 99)");
        e.edges("", "turned 0 1 #", OUTSIDE, 1, 4, 99, 0);
        e.edges("machine 10 1 5", "turned 0 1 #", OUTSIDE, 1, 2, 99, 8);

        e.sentence(13, "STATE -3 (as told: the machine is not BALANCED, if nothing else is told)");
        e.refused("machine 8 1 3", "turned 0 0 1", STATE);
        e.refused("machine 8 1 3", "turned 2 1 99", STATE);

        e.sentence(13, "UNKNOWN: both; OUTSIDE; STATE.");
        e.refused("", "turned 3 0 0", UNKNOWN);
        e.refused("", "turned 0 3 100", UNKNOWN);
        e.refused("machine 8 1 3", "turned 3 0 1", UNKNOWN);
        e.refused("machine 8 1 3", "turned 0 -1 0", UNKNOWN);
        e.refused("machine 8 1 3", "turned 0 0 0", OUTSIDE);
        e.refused("machine 8 1 3", "turned 0 0 100", OUTSIDE);
    }

    private static void promise13Powers() {
        e.sentence(13, "the least such power");
        e.taken("", "turned 1 1 1", 0);
        e.taken("", "turned 0 1 2", 0);
        e.taken("", "turned 2 0 12", 0);
        e.taken("", "turned 0 1 3", 0);
        e.taken("", "turned 1 0 1", 8);
        e.taken("", "turned 0 1 13", 4);
        e.taken("machine 3 1 3", "turned 0 1 1", 1);
        e.taken("machine 3 1 3", "turned 0 2 1", 2);
        e.taken("machine 3 1 3", "turned 0 1 98", 2);
        e.taken("machine 45 1 5", "turned 1 0 1", 36);
        e.taken("machine 48 1 3", "turned 1 0 1", 32);

        e.sentence(13, "NONE: none is.");
        // Each PHASE is PHASE 0 turned on by N by M, so for no machine is there none: the power is known.
        for (int q = 3; q <= 48; q++) {
            for (int p = 1; p <= 10; p++) {
                turnedBySteps(q, p, 3);
                turnedBySteps(q, p, 5);
            }
        }
    }

    private static void turnedBySteps(int q, int p, int m) {
        String machine = "machine " + q + " " + p + " " + m;
        int n = Edges.call(new SlotStar(), machine);
        if (n % m != 0) return;
        for (int wave = 1; wave <= 99; wave += 2) {
            SlotStar x = Edges.after(machine);
            boolean nothing = x.vanishes(wave) == 1;
            for (int one = 0; one < m; one++) {
                for (int other = 0; other < m; other++) {
                    int power = nothing ? 0 : Math.floorMod(wave * (other - one) * (n / m), n);
                    e.due(machine, "turned " + one + " " + other + " " + wave, x.turned(one, other, wave), power);
                }
            }
        }
    }

    public static void main(String[] args) throws IOException {
        e = new Edges("EdgesOfSumsTest", 9, 13);
        promise9();
        promise10Refusals();
        promise10Powers();
        promise11();
        promise12();
        promise13Refusals();
        promise13Powers();
        e.end("turned NONE");
    }
}
