import java.math.BigInteger;

/**
 * What is sworn, rests, fires, THE SEED and years, promises 23 to 29: a test for each sentence of the document
 * that names a boundary case, on both sides of it.
 */
public final class ChanceBoundaryTest {
    private static final int UNKNOWN = -1, BAD = -2, FULL = -4, NONE = -9;
    private static final long TIMES = 6364136223846793005L, MORE = 1442695040888963407L;
    private static final BigInteger WORD = BigInteger.ONE.shiftLeft(64);
    private static final long BACK = BigInteger.valueOf(TIMES).modInverse(WORD).longValue();
    private static final long HIGHEST = Integer.MAX_VALUE;

    public static void main(String[] args) {
        swornAreSixAtMost();
        swornIsSoOrNot();
        unswornAllIsForgotten();
        swornOfThingsThatAreNotAnyMore();
        whereNothingIsSwornAllMayBe();
        theFirstThatMayBe();
        noneMayBe();
        spikesAsTheyAreSayNothing();
        restsOfTwoThings();
        restsWithoutSlips();
        restsWithOneSlip();
        restsByTheTwoLeastNumbers();
        restsOfBothTakingOne();
        restsByWhatTheOtherHas();
        noRests();
        firesOf0Tenths();
        firesOf10Tenths();
        firesByTenths();
        aSpikeBurnsWhole();
        theSeedIsALong();
        yearsAre1To30();
        theSeedWrapsAt64Bits();
        theUpper31BitsAreDrawn();
        draws0To23Spike();
        draws24To26Take();
        draws27To29Audit();
        draws30To35AreNights();
        eachIfItCanBe();
        yearsGoOnFromEachOther();
        nothingChangesButTheSeed();
        Check.end();
    }

    // ---- 23 to 25: sworn

    private static void swornAreSixAtMost() {
        SpikeTown x = Check.townOf("RT0000T0111");
        for (int many = 1; many <= 6; many++) {
            Check.due("23: swear", x.swear(1, 1), many);
        }
        Check.due("23: a seventh", x.swear(0, 0), FULL);
        Check.due("23: six as ever", x.about(7), 6);
        Check.due("25: the seventh is not sworn", x.may(0), 128);
        Check.due("24: unswear", x.unswear(), 6);
        Check.due("23: there is room again", x.swear(0, 0), 1);
    }

    private static void swornIsSoOrNot() {
        SpikeTown x = Check.townOf("RT0000");
        Check.due("23: swear(0, -1)", x.swear(0, -1), BAD);
        Check.due("23: swear(0, 0)", x.swear(0, 0), 1);
        Check.due("25: sets without slip 0", x.may(0), 128);
        Check.due("25: the first one", x.may(1), 0);
        x.unswear();
        Check.due("23: swear(0, 1)", x.swear(0, 1), 1);
        Check.due("25: sets with slip 0", x.may(0), 128);
        Check.due("25: the first one", x.may(1), 1);
        Check.due("23: swear(0, 2)", x.swear(0, 2), BAD);
        Check.due("23: swear(1, 1)", x.swear(1, 1), UNKNOWN);
        Check.due("23: swear(-1, 1)", x.swear(-1, 1), UNKNOWN);
    }

    private static void unswornAllIsForgotten() {
        SpikeTown x = Check.townOf("RT0000");
        Check.due("24: none at first", x.unswear(), 0);
        for (int many = 1; many <= 6; many++) {
            for (int i = 0; i < many; i++) {
                x.swear(0, i % 2);
            }
            Check.due("24: unswear", x.unswear(), many);
            Check.due("6: sworn", x.about(7), 0);
            Check.due("25: may", x.may(0), 256);
        }
        Check.due("24: none", x.unswear(), 0);
    }

    private static void swornOfThingsThatAreNotAnyMore() {
        SpikeTown x = Check.townOf("RT0000T0111T0222T0333T0444T0555");
        for (int thing = 0; thing < 6; thing++) {
            x.swear(thing, 1);
        }
        Check.due("25: six sworn", x.may(0), 4);
        for (int things = 6; things >= 0; things--) {
            Check.write(x, "R" + "T0000T0111T0222T0333T0444T0555".substring(0, 5 * things));
            x.town();
            Check.due("25: things left: " + things, x.may(0), 256 >> things);
            Check.due("25: the first one", x.may(1), (1 << things) - 1);
            Check.due("6: sworn as ever", x.about(7), 6);
        }
        Check.write(x, "RT0000T0777");
        x.town();
        Check.due("25: by grounds as they are", x.may(1), 1 + 128);
    }

    private static void whereNothingIsSwornAllMayBe() {
        SpikeTown x = new SpikeTown();
        Check.due("25: sets", x.may(0), 256);
        Check.due("25: the first one", x.may(1), 0);
        Check.due("25: may(2)", x.may(2), BAD);
        Check.due("25: may(-1)", x.may(-1), BAD);
    }

    private static void theFirstThatMayBe() {
        SpikeTown x = Check.townOf("RT0012T0A34T0B56T0C77");
        x.swear(3, 1);
        Check.due("25: all eight alone", x.may(0), 1);
        Check.due("25: the last set is the first", x.may(1), 255);
        x.unswear();
        x.swear(3, 0);
        Check.due("25: all but that", x.may(0), 255);
        Check.due("25: the first set", x.may(1), 0);
        x.swear(2, 1);
        Check.due("25: one again", x.may(0), 1);
        Check.due("25: all but slip 7", x.may(1), 127);
    }

    private static void noneMayBe() {
        SpikeTown x = Check.townOf("RT0000T2000");
        x.swear(0, 1);
        Check.due("25: some", x.may(0), 128);
        x.swear(0, 0);
        Check.due("25: it and not it", x.may(0), 0);
        Check.due("25: it and not it", x.may(1), NONE);
        x.unswear();
        x.swear(1, 0);
        Check.due("25: what is never so, not", x.may(0), 256);
        x.swear(1, 1);
        Check.due("25: what is never so", x.may(0), 0);
        Check.due("25: what is never so", x.may(1), NONE);
    }

    private static void spikesAsTheyAreSayNothing() {
        SpikeTown x = Check.townOf("RS00T0000");
        x.swear(0, 0);
        Check.due("25: sets without what is there", x.may(0), 128);
        x.take(0);
        x.tear(0);
        x.unswear();
        x.swear(0, 1);
        Check.due("25: sets with what is gone", x.may(0), 128);
        Check.due("25: the first one", x.may(1), 1);
    }

    // ---- 26: rests

    private static void restsAre(SpikeTown x, int one, int other, int many, int first) {
        Check.due("26: rests(" + one + ", " + other + ", 0)", x.rests(one, other, 0), many);
        Check.due("26: rests(" + one + ", " + other + ", 1)", x.rests(one, other, 1), first);
    }

    private static void restsOfTwoThings() {
        SpikeTown x = Check.townOf("RT0000T0111T0222T0333T0444T0555");
        Check.due("26: rests(5, 0, 0)", x.rests(5, 0, 0), 1);
        Check.due("26: rests(0, 5, 1)", x.rests(0, 5, 1), 0);
        Check.due("26: rests(6, 0, 0)", x.rests(6, 0, 0), UNKNOWN);
        Check.due("26: rests(0, 6, 0)", x.rests(0, 6, 0), UNKNOWN);
        Check.due("26: rests(-1, 0, 0)", x.rests(-1, 0, 0), UNKNOWN);
        Check.due("26: rests(0, -1, 0)", x.rests(0, -1, 0), UNKNOWN);
        Check.due("26: rests(6, 6, 0)", x.rests(6, 6, 0), UNKNOWN);
        Check.due("26: rests(5, 5, 0)", x.rests(5, 5, 0), BAD);
        Check.due("26: rests(0, 5, 2)", x.rests(0, 5, 2), BAD);
        Check.due("26: rests(0, 5, -1)", x.rests(0, 5, -1), BAD);
    }

    /** No slip goes, but a choice costs 1 all the same. */
    private static void restsWithoutSlips() {
        restsAre(Check.townOf("RT0000T0111"), 0, 1, 1, 0);
    }

    /**
     * Thing 0 is so by the only slip, thing 1 never. Who wants thing 0 takes none. The other has as much by the
     * slip (1 less, 1 more), but 1 less by the next slip, which there is not.
     */
    private static void restsWithOneSlip() {
        for (int slip = 0; slip < 8; slip++) {
            SpikeTown x = Check.townOf("RS2" + slip + "T0" + slip + slip + slip + "T2000");
            restsAre(x, 0, 1, 2, 0);
            restsAre(x, 1, 0, 2, 0);
        }
        // slip 0 is in the way of thing 0: to take it is the only rest of the one, and the other takes none
        SpikeTown x = Check.townOf("RS00T2011T2000");
        restsAre(x, 0, 1, 1, 0);
        x.put(1, 0);
        restsAre(x, 0, 1, 1, 10);
        restsAre(x, 1, 0, 1, 1);
    }

    /** The slip of the least number and the next one, wherever and how high they are; not a third one. */
    private static void restsByTheTwoLeastNumbers() {
        // slips 7, 5, 3 from the lowest; the thing is so without 3, or without 5, or without 7
        restsAre(Check.townOf("RS07S05S03T2377T2000"), 0, 1, 1, 10);
        restsAre(Check.townOf("RS07S05S03T2577T2000"), 0, 1, 1, 20);
        restsAre(Check.townOf("RS07S05S03T2755T2000"), 0, 1, 1, 0);
        restsAre(Check.townOf("RS27S15S03T2577T2000"), 0, 1, 1, 20);
        restsAre(Check.townOf("RS27S15S03T2577T2000"), 1, 0, 1, 2);
        SpikeTown x = Check.townOf("RS07S05S03T2577T2000");
        x.take(0);
        restsAre(x, 0, 1, 1, 10);
        x.tear(3);
        restsAre(x, 0, 1, 1, 10);
        x.put(0, 2);
        restsAre(x, 0, 1, 1, 20);
    }

    /** Two things in whose way the same slip is: one of both takes it, and no more goes by both. */
    private static void restsOfBothTakingOne() {
        SpikeTown x = Check.townOf("RS00S01T2011T2011");
        // one takes slip 0: 3 - 1 to the one, 3 to the other; both: 3 - 1 to each; none: 1 to each
        restsAre(x, 0, 1, 2, 1);
        restsAre(x, 1, 0, 2, 1);
    }

    /**
     * Each thing is so by a slip of its own, the least two there are. To take the other's slip is 1 less and
     * 1 more, to keep is as good; so it rests where each keeps or takes the other's, and nowhere else.
     */
    private static void restsByWhatTheOtherHas() {
        for (int one = 0; one < 6; one++) {
            for (int other = 0; other < 6; other++) {
                if (one != other) {
                    SpikeTown x = Check.townOf("RT0000T0111T0222T0333T0444T0555");
                    x.put(other, 0);
                    x.put(one, 0);
                    restsAre(x, one, other, 4, 0);
                    // with the one's slip alone the one keeps it, and the other keeps or takes it
                    x.take(0);
                    x.take(0);
                    x.put(one, 1);
                    restsAre(x, one, other, 2, 0);
                    restsAre(x, other, one, 2, 0);
                }
            }
        }
        // the one's thing is never so: to take slip 0 is as good as to keep, if the other hangs by it
        restsAre(Check.townOf("RS00T2111T0000"), 0, 1, 2, 0);
        restsAre(Check.townOf("RS00T2111T2000"), 0, 1, 1, 0);
    }

    private static void noRests() {
        SpikeTown x = Check.townOf("RS00S01S02T2110T2A12");
        restsAre(x, 0, 1, 0, NONE);
        restsAre(x, 1, 0, 0, NONE);
        x.take(0);
        x.take(0);
        Check.holds("26: there are some then", x.rests(0, 1, 0) > 0);
        Check.holds("26: there are some then", x.rests(0, 1, 1) >= 0);
    }

    // ---- 27: fires

    private static void firesAre(SpikeTown x, int thing, int tenths, int above, int below) {
        Check.dueFraction("27: fires(" + thing + ", " + tenths + ")",
            x.fires(thing, tenths, true), x.fires(thing, tenths, false), above, below);
    }

    private static void firesOf0Tenths() {
        SpikeTown x = Check.townOf("RS00S11S22T0012T2011T1310");
        firesAre(x, 0, 0, 1, 1);
        firesAre(x, 1, 0, 0, 1);
        firesAre(x, 2, 0, 1, 1);
        Check.due("27: fires(0, -1)", x.fires(0, -1, true), BAD);
    }

    private static void firesOf10Tenths() {
        SpikeTown x = Check.townOf("RS00S11S22T0012T2011T1310");
        for (int thing = 0; thing < 3; thing++) {
            firesAre(x, thing, 10, 0, 1);
        }
        Check.due("27: fires(0, 11)", x.fires(0, 11, true), BAD);
        Check.due("27: fires(0, 11)", x.fires(0, 11, false), BAD);
    }

    private static void firesByTenths() {
        SpikeTown x = Check.townOf("RS00S11S22T0012T0000T2011");
        int[][] all = {{1, 1}, {729, 1000}, {64, 125}, {343, 1000}, {27, 125}, {1, 8}, {8, 125}, {27, 1000},
            {1, 125}, {1, 1000}, {0, 1}};
        int[][] one = {{1, 1}, {9, 10}, {4, 5}, {7, 10}, {3, 5}, {1, 2}, {2, 5}, {3, 10}, {1, 5}, {1, 10}, {0, 1}};
        int[][] without = {{0, 1}, {9, 100}, {4, 25}, {21, 100}, {6, 25}, {1, 4}, {6, 25}, {21, 100}, {4, 25},
            {9, 100}, {0, 1}};
        for (int tenths = 0; tenths <= 10; tenths++) {
            firesAre(x, 0, tenths, all[tenths][0], all[tenths][1]);
            firesAre(x, 1, tenths, one[tenths][0], one[tenths][1]);
            firesAre(x, 2, tenths, without[tenths][0], without[tenths][1]);
        }
    }

    private static void aSpikeBurnsWhole() {
        for (int spike = 0; spike < 3; spike++) {
            SpikeTown x = Check.townOf("RT0012T0A34T0B56T0C77");
            for (int slip = 0; slip < 8; slip++) {
                x.put(slip, spike);
            }
            firesAre(x, 3, 3, 7, 10);
            x.take(spike);
            firesAre(x, 3, 3, 0, 1);
            x.put(7, (spike + 1) % 3);
            firesAre(x, 3, 3, 49, 100);
        }
    }

    // ---- 28, 29: the seed, years

    /** The seed after which x comes. */
    private static long ahead(long x) {
        return (x - MORE) * BACK;
    }

    /** A seed by which such are drawn, one after another; the upper 31 bits of the first are just its number. */
    private static long seedOf(int... drawn) {
        for (long low = 0; low < 1000000; low++) {
            long x = (long) drawn[0] << 33 | low;
            long first = x;
            boolean all = true;
            for (int i = 1; i < drawn.length && all; i++) {
                x = x * TIMES + MORE;
                all = (x >>> 33) % 36 == drawn[i];
            }
            if (all) {
                return ahead(first);
            }
        }
        Check.holds("29: a seed is found", false);
        return 0;
    }

    private static void yearsAre(String text, int want, int... drawn) {
        SpikeTown x = Check.townOf(text);
        x.seed(seedOf(drawn));
        StringBuilder call = new StringBuilder("29: years of " + text + " by");
        for (int one : drawn) {
            call.append(' ').append(one);
        }
        Check.due(call.toString(), x.years(drawn.length), want);
    }

    private static void theSeedIsALong() {
        SpikeTown x = new SpikeTown();
        long was = 0;
        for (long v : new long[] {Long.MAX_VALUE, Long.MIN_VALUE, -1, 1L << 32, 1, 0}) {
            Check.due("28: what it was", x.seed(v), was);
            was = v;
        }
        Check.due("28: what it was", x.seed(5), 0);
    }

    private static void yearsAre1To30() {
        SpikeTown x = Check.townOf("RT0000");
        Check.due("29: years(0)", x.years(0), BAD);
        Check.due("29: years(31)", x.years(31), BAD);
        Check.due("29: the seed stays", x.seed(0), 0);
        for (int m = 1; m <= 30; m++) {
            Check.holds("29: years(" + m + ")", x.years(m) >= 0);
            Check.due("29: the seed after " + m, x.seed(0), seedAfter(0, m));
        }
    }

    private static long seedAfter(long seed, int years) {
        BigInteger x = BigInteger.valueOf(seed);
        for (int i = 0; i < years; i++) {
            x = x.multiply(BigInteger.valueOf(TIMES)).add(BigInteger.valueOf(MORE)).mod(WORD);
        }
        return x.longValue();
    }

    private static void theSeedWrapsAt64Bits() {
        SpikeTown x = new SpikeTown();
        long[] seeds = {0, 1, 2, -1, -2, Long.MAX_VALUE, Long.MIN_VALUE, 1L << 32, ahead(-1), ahead(0), ahead(1),
            ahead(Long.MIN_VALUE), ahead(Long.MAX_VALUE)};
        for (long seed : seeds) {
            for (int m : new int[] {1, 2, 30}) {
                x.seed(seed);
                x.years(m);
                Check.due("29: the seed after " + m + " from " + seed, x.seed(0), seedAfter(seed, m));
            }
        }
    }

    /** Slip 0 is so when it is drawn for spike 0, 1 or 2: by 0, 1, 2 and by each 36 more, up to all 31 bits. */
    private static void theUpper31BitsAreDrawn() {
        long lower = (1L << 33) - 1;
        long[] upper = {0, 2, 3, 23, 24, 35, 36, 38, 39, 1L << 30, HIGHEST / 36 * 36, HIGHEST / 36 * 36 - 1,
            HIGHEST - 1, HIGHEST};
        for (long bits : upper) {
            for (long low : new long[] {0, 1, 1L << 32, lower}) {
                SpikeTown x = Check.townOf("RT0000");
                x.seed(ahead(bits << 33 | low));
                Check.due("29: upper bits " + bits + ", lower " + low, x.years(1), bits % 36 < 3 ? 1 : 0);
            }
        }
    }

    private static void draws0To23Spike() {
        for (int drawn = 0; drawn < 24; drawn++) {
            int slip = drawn / 3;
            for (int other = 0; other < 8; other++) {
                yearsAre("RT0" + other + other + other, other == slip ? 1 : 0, drawn);
            }
            // it is taken in the next year from the spike on which it is, from no other one
            for (int spike = 0; spike < 3; spike++) {
                yearsAre("RT0" + slip + slip + slip, spike == drawn % 3 ? 1 : 2, drawn, 24 + spike);
            }
        }
    }

    private static void draws24To26Take() {
        for (int drawn = 23; drawn <= 27; drawn++) {
            for (int spike = 0; spike < 3; spike++) {
                String text = "RS" + spike + "0S" + spike + "1T0000T0111";
                yearsAre(text, drawn == 24 + spike ? 1 : 2, drawn);
                yearsAre(text, drawn == 24 + spike ? 1 : 4, drawn, drawn);
            }
        }
    }

    private static void draws27To29Audit() {
        for (int drawn = 26; drawn <= 30; drawn++) {
            for (int spike = 0; spike < 3; spike++) {
                // audited, the lowest one is on top, and is taken
                String text = "RS" + spike + "0S" + spike + "1T0111";
                int want = drawn == 27 + spike ? 2 : drawn == 24 + spike ? 0 : 1;
                yearsAre(text, want, drawn, 24 + spike);
            }
        }
    }

    private static void draws30To35AreNights() {
        for (int drawn = 29; drawn <= 35; drawn++) {
            yearsAre("RS00S01S02T0000", drawn < 30 ? 1 : 0, drawn);
            yearsAre("RS00S01S02S03T0111", drawn < 30 ? 2 : 1, drawn, drawn);
            yearsAre("RS00S01T0000", 2, drawn, drawn);
        }
        // 36 is 0 again
        SpikeTown x = Check.townOf("RS10S11S12T0000T0333");
        x.seed(ahead(36L << 33));
        Check.due("29: 36 is no night", x.years(1), 1);
    }

    private static void eachIfItCanBe() {
        // slip 0 is on spike 2 and stays there, when it is drawn for spike 0
        yearsAre("RS20T0000", 2, 0, 24);
        yearsAre("RS20T0000", 1, 0, 26);
        // none is taken where there is none
        yearsAre("RS20T0000", 2, 24, 25);
        yearsAre("RT0000", 0, 24, 25, 26);
        yearsAre("RT0000", 0, 27, 28, 29);
        yearsAre("RS20T0000", 3, 27, 28, 29);
        SpikeTown x = Check.townOf("RT0000");
        x.tear(0);
        x.seed(seedOf(0));
        Check.due("29: one gone is not spiked", x.years(1), 0);
        x.forge(0);
        x.seed(seedOf(0));
        Check.due("29: one forged is", x.years(1), 1);
    }

    private static void yearsGoOnFromEachOther() {
        // three slips are spiked on spike 0 and the first is lost to mice: so after 1, 2 and 3 years, not after 4
        yearsAre("RT0000", 3, 0, 3, 6, 30);
        yearsAre("RT0000T0333", 3 + 3, 0, 9, 6, 35);
        yearsAre("RT0000T0000T0000T0000T0000T0000", 6 + 6, 1, 1);
        // each call begins from how it is, by the seed as it is left
        SpikeTown x = Check.townOf("RT0000");
        x.seed(seedOf(0, 25));
        Check.due("29: the first year", x.years(1), 1);
        Check.due("29: the next by itself", x.years(1), 0);
    }

    private static void nothingChangesButTheSeed() {
        SpikeTown x = Check.townOf("RS00S01S02T0000T0777");
        x.tear(6);
        x.keep(0);
        String before = Check.pictureOf(x);
        x.seed(1);
        x.years(30);
        Check.due("29: the seed", x.seed(0), seedAfter(1, 30));
        Check.dueText("29: all else", Check.pictureOf(x), before);
        Check.due("29: acts", x.undo(), 0);
    }
}
