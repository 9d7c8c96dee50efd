/** Promises 23 to 25: what is sworn, and what may have been on spikes. */
public final class OathTest {
    private static final int UNKNOWN = -1, BAD = -2, FULL = -4, NONE = -9;

    public static void main(String[] args) {
        swear();
        unswear();
        may();
        mayOfTownsAnew();
        Check.end();
    }

    private static void swear() {
        SpikeTown x = Check.townOf("RT0000T0111");
        for (int thing : new int[] {-1, 2, 6, Integer.MIN_VALUE, Integer.MAX_VALUE}) {
            Check.due("23: swear(" + thing + ", 0)", x.swear(thing, 0), UNKNOWN);
            Check.due("23: swear(" + thing + ", 2)", x.swear(thing, 2), UNKNOWN);
        }
        for (int so : new int[] {-1, 2, Integer.MIN_VALUE, Integer.MAX_VALUE}) {
            Check.due("23: swear(0, " + so + ")", x.swear(0, so), BAD);
        }
        Check.due("23: sworn", x.about(7), 0);
        for (int many = 1; many <= 6; many++) {
            Check.due("23: swear", x.swear(many % 2, 1), many);
        }
        Check.due("23: swear at 6", x.swear(0, 1), FULL);
        Check.due("23: swear of no thing at 6", x.swear(2, 1), UNKNOWN);
        Check.due("23: swear of no answer at 6", x.swear(0, 2), BAD);
        Check.due("23: sworn", x.about(7), 6);
        Check.due("23: the one of 6 that was too many is not sworn", x.may(0), 64);
        Check.due("23: it is no act", x.about(6), 0);
    }

    private static void unswear() {
        SpikeTown x = Check.townOf("RT0000");
        Check.due("24: unswear of nothing", x.unswear(), 0);
        x.swear(0, 1);
        x.swear(0, 0);
        Check.due("24: unswear", x.unswear(), 2);
        Check.due("24: sworn", x.about(7), 0);
        Check.due("24: unswear again", x.unswear(), 0);
        Check.due("24: may", x.may(0), 256);
        Check.due("24: swear then", x.swear(0, 1), 1);
    }

    private static void may() {
        SpikeTown x = Check.townOf("RS00S07T0127T2A34T3056");
        mayIs(x, 256, 0);
        x.swear(0, 1);
        mayIs(x, 32, 2 + 4 + 128);
        x.swear(2, 1);
        mayIs(x, 16, 1 + 2 + 4 + 32 + 128);
        x.swear(1, 0);
        mayIs(x, 16, 1 + 2 + 4 + 32 + 128);
        x.swear(1, 1);
        mayIs(x, 0, NONE);
        x.unswear();
        x.swear(1, 1);
        mayIs(x, (128 + 64) * 7 / 8, 8);
        x.swear(0, 0);
        x.swear(2, 0);
        mayIs(x, 84, 8);
        for (int what : new int[] {-1, 2, Integer.MIN_VALUE, Integer.MAX_VALUE}) {
            Check.due("25: may(" + what + ")", x.may(what), BAD);
        }
        Check.due("25: nothing is changed", x.about(2), 129);
    }

    /** What is sworn stays; of a thing that there is not any more it is not looked at, till there is one again. */
    private static void mayOfTownsAnew() {
        SpikeTown x = Check.townOf("RT0000T0111T0222");
        x.swear(0, 1);
        x.swear(2, 0);
        mayIs(x, 64, 1);
        Check.write(x, "RT0333");
        x.town();
        Check.due("23: sworn stays", x.about(7), 2);
        mayIs(x, 128, 8);
        Check.write(x, "R");
        x.town();
        mayIs(x, 256, 0);
        Check.write(x, "RT0444T0555T2566");
        x.town();
        mayIs(x, 128 * 3 / 4, 16);
    }

    private static void mayIs(SpikeTown x, int many, int first) {
        Check.due("25: may(0)", x.may(0), many);
        Check.due("25: may(1)", x.may(1), first);
    }
}
