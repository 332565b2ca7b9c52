/** Promises 9 to 13, by numbers worked out by hand. */
public final class SumsTest {
    private static final Check CHECK = new Check("SumsTest");
    private static final int GONE = SlotStar.GONE;

    private static void due(String call, int got, int want) {
        CHECK.due(call, got, want);
    }

    private static SlotStar machine(int q, int p, int m) {
        SlotStar x = new SlotStar();
        x.machine(q, p, m);
        return x;
    }

    private static void own(int q, int p, int m, int... numbers) {
        SlotStar x = machine(q, p, m);
        String who = q + " " + p + " " + m + ": own ";
        due(who + "-1", x.own(-1), numbers.length - 1);
        for (int i = 0; i < numbers.length; i++) {
            due(who + i, x.own(i), numbers[i]);
        }
        due(who + numbers.length, x.own(numbers.length), SlotStar.NONE);
    }

    private static void promise9Own() {
        own(3, 3, 3, -1, 1);
        own(4, 2, 3, 1, 1);
        own(3, 1, 3, 1, 1, 1);
        own(4, 1, 3, 1, 0, 1);
        own(6, 1, 3, 1, -1, 1);
        own(12, 1, 3, 1, 0, -1, 0, 1);
        own(30, 1, 3, 1, 1, 0, -1, -1, -1, 0, 1, 1);
        own(25, 1, 5, 1, 0, 0, 0, 0, 1, 0, 0, 0, 0, 1, 0, 0, 0, 0, 1, 0, 0, 0, 0, 1);
        own(32, 1, 5, 1, 0, 0, 0, 0, 0, 0, 0, 0, 0, 0, 0, 0, 0, 0, 0, 1);
        own(48, 1, 3, 1, 0, 0, 0, 0, 0, 0, 0, -1, 0, 0, 0, 0, 0, 0, 0, 1);
        SlotStar x = machine(47, 1, 3);
        due("47: own -1", x.own(-1), 46);
        due("47: own 46", x.own(46), 1);
        for (int i : new int[] {-2, 47, 48, 49, 1000, Integer.MIN_VALUE, Integer.MAX_VALUE}) {
            due("47: own " + i, x.own(i), SlotStar.NONE);
        }
    }

    /** Six slots: x squared is x less 1. Phase 0 has slots 0 forward and 3 back. */
    private static void promise10Sum() {
        SlotStar x = machine(6, 1, 3);
        // 1 - x^3 - (x^3 - x^6) = 2 - 2 x^3 = 4
        due("6 slots: sum 0 1 0", x.sum(0, 1, 0), 4);
        due("6 slots: sum 0 1 1", x.sum(0, 1, 1), 0);
        x.width(2);
        // 1 - x^2 - x^3 + x^5 = 1 - (x - 1) + 1 + (1 - x) = 4 - 2 x
        due("width 2: sum 0 1 0", x.sum(0, 1, 0), 4);
        due("width 2: sum 0 1 1", x.sum(0, 1, 1), -2);
        // the same times x^2: 4 x^2 - 2 x^3 = 4 x - 4 + 2
        due("width 2: sum 1 1 0", x.sum(1, 1, 0), -2);
        due("width 2: sum 1 1 1", x.sum(1, 1, 1), 4);
        due("width 2: wave 7 is wave 1", x.sum(1, 7, 0), -2);
        due("width 2: wave 97 is wave 1", x.sum(1, 97, 1), 4);
        // wave 99 is wave 3: x^0 - x^6 - x^9 + x^15 = 0
        due("width 2: sum 0 99 0", x.sum(0, 99, 0), 0);
        SlotStar copies = machine(12, 2, 3);
        due("only copy 0 is added", copies.sum(0, 1, 0), 4);
    }

    private static void promise10Refusals() {
        SlotStar x = machine(6, 1, 3);
        due("sum 3 0 9", x.sum(3, 0, 9), GONE + SlotStar.UNKNOWN);
        due("sum -1 1 0", x.sum(-1, 1, 0), GONE + SlotStar.UNKNOWN);
        due("sum 2 0 0", x.sum(2, 0, 0), GONE + SlotStar.OUTSIDE);
        due("sum 2 100 0", x.sum(2, 100, 0), GONE + SlotStar.OUTSIDE);
        due("sum 2 99 2", x.sum(2, 99, 2), GONE + SlotStar.OUTSIDE);
        due("sum 2 99 -1", x.sum(2, 99, -1), GONE + SlotStar.OUTSIDE);
        x.machine(8, 1, 3);
        due("unbalanced: sum 3 1 0", x.sum(3, 1, 0), -100001);
        due("unbalanced: sum 0 1 4", x.sum(0, 1, 4), -100002);
        due("unbalanced: sum 0 1 3", x.sum(0, 1, 3), -100003);
    }

    private static void promise11Vanishes() {
        SlotStar x = machine(6, 1, 3);
        for (int h = 1; h <= 99; h++) {
            due("6 slots: vanishes " + h, x.vanishes(h), h % 2 == 0 ? 1 : 0);
        }
        x.width(2);
        for (int h = 1; h <= 99; h++) {
            due("width 2: vanishes " + h, x.vanishes(h), h % 2 == 0 || h % 3 == 0 ? 1 : 0);
        }
        due("vanishes 0", x.vanishes(0), SlotStar.OUTSIDE);
        due("vanishes 100", x.vanishes(100), SlotStar.OUTSIDE);
        x.machine(8, 1, 3);
        due("unbalanced: vanishes 1", x.vanishes(1), SlotStar.STATE);
        due("unbalanced: vanishes 0", x.vanishes(0), SlotStar.OUTSIDE);
    }

    private static void promise12Choose() {
        SlotStar x = new SlotStar();
        due("12 slots: choose 3", x.choose(3), 4);
        due("12 slots: choose 1", x.choose(1), SlotStar.NONE);
        due("12 slots: choose 2", x.choose(2), 6);
        due("the width stays", x.told(3), 5);
        x.width(1);
        due("the width does not matter", x.choose(3), 4);
        x.machine(30, 1, 3);
        due("30 slots: choose 5", x.choose(5), 12);
        due("30 slots: choose 15", x.choose(15), 14);
        x.machine(3, 10, 3);
        due("width 1 at the least: choose 3", x.choose(3), 1);
        due("width 1 at the least: choose 1", x.choose(1), SlotStar.NONE);
        due("choose 0", x.choose(0), SlotStar.OUTSIDE);
        due("choose 100", x.choose(100), SlotStar.OUTSIDE);
        x.machine(8, 1, 3);
        due("unbalanced: choose 99", x.choose(99), SlotStar.STATE);
        due("unbalanced: choose 100", x.choose(100), SlotStar.OUTSIDE);
    }

    private static void promise13Turned() {
        SlotStar x = new SlotStar();
        due("turned 0 1 1", x.turned(0, 1, 1), 4);
        due("turned 1 0 1", x.turned(1, 0, 1), 8);
        due("turned 2 2 1", x.turned(2, 2, 1), 0);
        due("turned 0 1 3", x.turned(0, 1, 3), 0);
        due("turned 0 1 2, both nothing", x.turned(0, 1, 2), 0);
        due("turned 0 2 5", x.turned(0, 2, 5), 4);
        due("turned 3 0 0", x.turned(3, 0, 0), SlotStar.UNKNOWN);
        due("turned 0 3 0", x.turned(0, 3, 0), SlotStar.UNKNOWN);
        due("turned -1 0 1", x.turned(-1, 0, 1), SlotStar.UNKNOWN);
        due("turned 0 -1 1", x.turned(0, -1, 1), SlotStar.UNKNOWN);
        due("turned 0 1 0", x.turned(0, 1, 0), SlotStar.OUTSIDE);
        due("turned 0 1 100", x.turned(0, 1, 100), SlotStar.OUTSIDE);
        // 4 to 4 x - 4: times x it is 4 x, so all numbers are to be compared.
        x.machine(6, 1, 3);
        due("6 slots: turned 0 1 1", x.turned(0, 1, 1), 2);
        x.machine(8, 1, 3);
        due("unbalanced: turned 0 3 1", x.turned(0, 3, 1), SlotStar.UNKNOWN);
        due("unbalanced: turned 0 0 100", x.turned(0, 0, 100), SlotStar.OUTSIDE);
        due("unbalanced: turned 0 0 1", x.turned(0, 0, 1), SlotStar.STATE);
    }

    public static void main(String[] args) {
        promise9Own();
        promise10Sum();
        promise10Refusals();
        promise11Vanishes();
        promise12Choose();
        promise13Turned();
        CHECK.end();
    }
}
