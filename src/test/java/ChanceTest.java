/** Promises 26 to 29: two who keep or tear, fires by chance, years by a seed. */
public final class ChanceTest {
    private static final int UNKNOWN = -1, BAD = -2, NONE = -9;

    public static void main(String[] args) {
        restsRefused();
        rests();
        restsBySlipsThatAreNot();
        fires();
        firesRefused();
        seed();
        years();
        yearsByHand();
        yearsRefused();
        Check.end();
    }

    private static void restsRefused() {
        SpikeTown x = Check.townOf("RT0000T0111");
        for (int far : new int[] {-1, 2, 6, Integer.MIN_VALUE, Integer.MAX_VALUE}) {
            Check.due("26: rests(" + far + ", 0, 0)", x.rests(far, 0, 0), UNKNOWN);
            Check.due("26: rests(0, " + far + ", 0)", x.rests(0, far, 0), UNKNOWN);
            Check.due("26: rests(" + far + ", " + far + ", 5)", x.rests(far, far, 5), UNKNOWN);
        }
        for (int what : new int[] {-1, 2, Integer.MIN_VALUE, Integer.MAX_VALUE}) {
            Check.due("26: rests(0, 1, " + what + ")", x.rests(0, 1, what), BAD);
        }
        Check.due("26: rests(1, 1, 0)", x.rests(1, 1, 0), BAD);
        Check.due("26: rests(0, 0, 1)", x.rests(0, 0, 1), BAD);
    }

    private static void rests() {
        // both are so and stay so: to take another's slip is 1 less and 1 more
        SpikeTown x = Check.townOf("RS02S15T0555T0222");
        restsAre(x, 0, 1, 4, 0);
        restsAre(x, 1, 0, 4, 0);
        // one takes slip 0, which is in its way; the other then loses nothing by none, or by slip 1
        x = Check.townOf("RS00S01T2011T0000");
        restsAre(x, 0, 1, 2, 10);
        restsAre(x, 1, 0, 2, 1);
        // slip 1 is in its way
        x = Check.townOf("RS00S01T2100T0111");
        restsAre(x, 0, 1, 2, 20);
        // each choice has a better one: no rest
        x = Check.townOf("RS00S01S02T2110T2A12");
        restsAre(x, 1, 0, 0, NONE);
        restsAre(x, 0, 1, 0, NONE);
        // all pairs of things that hang by two slips
        x = Check.townOf("RS00T0000T2011S01T1100T2100");
        for (int one = 0; one < 4; one++) {
            for (int other = 0; other < 4; other++) {
                if (one != other) {
                    restsAre(x, one, other, restsByHand(x, one, other, 0), restsByHand(x, one, other, 1));
                }
            }
        }
        Check.due("26: nothing is changed", x.about(2), 3);
    }

    private static void restsBySlipsThatAreNot() {
        SpikeTown x = Check.townOf("RT0000T0111");
        restsAre(x, 0, 1, 1, 0);
        x.put(0, 2);
        // the other loses 1 by a choice and has 1 more when slip 0 is away
        restsAre(x, 0, 1, 2, 0);
        restsAre(x, 1, 0, 2, 0);
        x.put(1, 2);
        restsAre(x, 0, 1, 4, 0);
        Check.due("26: nothing is changed", x.about(2), 3);
    }

    /** By the document's words, with acts on a town of its own for each pair of choices. */
    private static int restsByHand(SpikeTown x, int one, int other, int what) {
        int[][] ones = new int[3][3];
        int[][] others = new int[3][3];
        for (int i = 0; i < 3; i++) {
            for (int j = 0; j < 3; j++) {
                int taken = slipOf(x, i) | slipOf(x, j);
                x.keep(1);
                for (int spike = 0; spike < 3; spike++) {
                    for (int many = x.spike(spike, 0); many > 0; many--) {
                        x.take(spike);
                    }
                }
                int there = 3 & ~taken;
                for (int slip = 0; slip < 8; slip++) {
                    if ((there >> slip & 1) == 1) {
                        x.put(slip, 0);
                    }
                }
                int so = x.about(5);
                x.again(1);
                ones[i][j] = 3 * (so >> one & 1) - (i > 0 ? 1 : 0) + (1 - (so >> other & 1));
                others[i][j] = 3 * (so >> other & 1) - (j > 0 ? 1 : 0) + (1 - (so >> one & 1));
            }
        }
        int many = 0;
        int first = NONE;
        for (int i = 2; i >= 0; i--) {
            for (int j = 2; j >= 0; j--) {
                int best = Math.max(ones[0][j], Math.max(ones[1][j], ones[2][j]));
                int otherBest = Math.max(others[i][0], Math.max(others[i][1], others[i][2]));
                if (ones[i][j] == best && others[i][j] == otherBest) {
                    many++;
                    first = 10 * i + j;
                }
            }
        }
        return what == 0 ? many : first;
    }

    private static int slipOf(SpikeTown x, int choice) {
        int left = choice;
        for (int slip = 0; slip < 8; slip++) {
            if (x.slip(slip, 2) == 0 && left > 0) {
                left--;
                if (left == 0) {
                    return 1 << slip;
                }
            }
        }
        return 0;
    }

    private static void restsAre(SpikeTown x, int one, int other, int many, int first) {
        Check.due("26: rests(" + one + ", " + other + ", 0)", x.rests(one, other, 0), many);
        Check.due("26: rests(" + one + ", " + other + ", 1)", x.rests(one, other, 1), first);
    }

    private static void fires() {
        SpikeTown x = Check.townOf("RS00S11S22S13T0011T1012T3012T2011T0456T0333");
        firesAre(x, 0, 3, 49, 100);
        firesAre(x, 1, 3, 637, 1000);
        firesAre(x, 2, 3, 98, 125);
        firesAre(x, 3, 3, 21, 100);
        firesAre(x, 4, 3, 0, 1);
        firesAre(x, 5, 3, 7, 10);
        firesAre(x, 0, 0, 1, 1);
        firesAre(x, 3, 0, 0, 1);
        firesAre(x, 0, 10, 0, 1);
        firesAre(x, 3, 10, 0, 1);
        firesAre(x, 2, 5, 1, 2);
        firesAre(x, 1, 5, 3, 8);
        firesAre(x, 5, 2, 4, 5);
        Check.due("27: nothing is changed", x.about(2), 15);
    }

    private static void firesAre(SpikeTown x, int thing, int tenths, int above, int below) {
        Check.dueFraction("27: fires(" + thing + ", " + tenths + ")",
            x.fires(thing, tenths, true), x.fires(thing, tenths, false), above, below);
    }

    private static void firesRefused() {
        SpikeTown x = Check.townOf("RT0000");
        for (int far : new int[] {-1, 1, 6, Integer.MIN_VALUE, Integer.MAX_VALUE}) {
            Check.due("27: fires(" + far + ", 5)", x.fires(far, 5, true), UNKNOWN);
            Check.due("27: fires(" + far + ", 11)", x.fires(far, 11, false), UNKNOWN);
        }
        for (int tenths : new int[] {-1, 11, Integer.MIN_VALUE, Integer.MAX_VALUE}) {
            Check.due("27: fires(0, " + tenths + ")", x.fires(0, tenths, true), BAD);
        }
    }

    private static void seed() {
        SpikeTown x = new SpikeTown();
        Check.due("28: seed", x.seed(Long.MIN_VALUE), 0);
        Check.due("28: seed", x.seed(-1), Long.MIN_VALUE);
        Check.due("28: seed", x.seed(Long.MAX_VALUE), -1);
        Check.due("28: seed", x.seed(0), Long.MAX_VALUE);
        Check.due("28: it is no act", x.about(6), 0);
    }

    private static void years() {
        SpikeTown x = new SpikeTown();
        Check.due("29: years without things", x.years(1), 0);
        Check.due("29: the seed once", x.seed(1), 1442695040888963407L);
        x.years(2);
        long want = 1;
        for (int i = 0; i < 2; i++) {
            want = want * 6364136223846793005L + 1442695040888963407L;
        }
        Check.due("29: the seed twice", x.seed(1), want);
        // all of it together is told by years of one, from where each year began
        x = Check.townOf("RS00S01S02T0000T1010T2033");
        String before = Check.pictureOf(x);
        x.years(30);
        Check.holds("29: nothing changes but the seed", Check.pictureOf(x).equals(before));
        Check.due("29: it is no act", x.undo(), -3);
    }

    /** Years told by the seed alone, and done by acts, for many seeds. */
    private static void yearsByHand() {
        boolean[] drawn = new boolean[36];
        for (int start = 0; start < 60; start++) {
            SpikeTown x = Check.townOf("RS00S01S02S13S14T0001T1234T2055T3A6BT2C77");
            SpikeTown hand = Check.townOf("RS00S01S02S13S14T0001T1234T2055T3A6BT2C77");
            if (start % 2 == 1) {
                x.tear(5);
                hand.tear(5);
            }
            long seed = start * 0x9E3779B97F4A7C15L;
            x.seed(seed);
            int want = 0;
            int years = 1 + start % 30;
            for (int year = 0; year < years; year++) {
                seed = seed * 6364136223846793005L + 1442695040888963407L;
                int what = (int) Long.remainderUnsigned(seed >>> 33, 36);
                drawn[what] = true;
                pass(hand, what);
                want += Integer.bitCount(hand.about(5));
            }
            Check.due("29: years(" + years + ") by seed " + start, x.years(years), want);
            Check.due("29: the seed then", x.seed(0), seed);
        }
        for (int what = 0; what < 36; what++) {
            Check.holds("29: the test draws " + what, drawn[what]);
        }
    }

    private static void pass(SpikeTown x, int what) {
        if (what >= 30) {
            x.night();
        } else if (what >= 27) {
            x.audit(what - 27);
        } else if (what >= 24) {
            x.take(what - 24);
        } else {
            x.put(what / 3, what % 3);
        }
    }

    private static void yearsRefused() {
        SpikeTown x = Check.townOf("RS00T0000");
        x.seed(5);
        for (int m : new int[] {0, -1, 31, Integer.MIN_VALUE, Integer.MAX_VALUE}) {
            Check.due("29: years(" + m + ")", x.years(m), BAD);
        }
        Check.due("29: the seed stays", x.seed(0), 5);
    }
}
