/** Promises 10 to 16: acts, and how they are undone. */
public final class ActsTest {
    private static final int UNKNOWN = -1, LATE = -3, NONE = -9;
    private static final int[] NO_SLIPS = {Integer.MIN_VALUE, -1, 8, Integer.MAX_VALUE};
    private static final int[] NO_SPIKES = {Integer.MIN_VALUE, -1, 3, Integer.MAX_VALUE};

    public static void main(String[] args) {
        put();
        take();
        tear();
        forge();
        night();
        audit();
        undo();
        fullRow();
        refusedActs();
        Check.end();
    }

    private static void put() {
        SpikeTown x = new SpikeTown();
        for (int slip = 0; slip < 8; slip++) {
            Check.due("10: put(" + slip + ", 0)", x.put(slip, 0), slip);
        }
        Check.due("10: put of one that is on it", x.put(7, 0), LATE);
        Check.due("10: put of one that is on another", x.put(7, 2), LATE);
        x.take(0);
        Check.due("10: put on another", x.put(7, 2), 0);
        x.take(0);
        x.tear(6);
        Check.due("10: put of one gone", x.put(6, 0), LATE);
        x.forge(6);
        Check.due("10: put of one forged", x.put(6, 2), 1);
        for (int slip : NO_SLIPS) {
            Check.due("10: put(" + slip + ", 0)", x.put(slip, 0), UNKNOWN);
        }
        for (int spike : NO_SPIKES) {
            Check.due("10: put(0, " + spike + ")", x.put(0, spike), UNKNOWN);
        }
    }

    private static void take() {
        SpikeTown x = Check.townOf("RS13S15S10S27");
        Check.due("11: take(1)", x.take(1), 0);
        Check.due("11: it is in hand", x.slip(0, 2), 1);
        Check.due("11: take(1)", x.take(1), 5);
        Check.due("11: take(1)", x.take(1), 3);
        Check.due("11: take(1)", x.take(1), LATE);
        Check.due("11: take(0)", x.take(0), LATE);
        Check.due("11: take(2)", x.take(2), 7);
        for (int spike : NO_SPIKES) {
            Check.due("11: take(" + spike + ")", x.take(spike), UNKNOWN);
        }
        x = Check.townOf("RS00S01S02S03S04S05S06S07");
        Check.due("11: take beside a full spike", x.take(1), LATE);
        Check.due("11: take of a full spike", x.take(0), 7);
    }

    private static void tear() {
        SpikeTown x = Check.townOf("RS13");
        Check.due("12: tear(0)", x.tear(0), 1);
        Check.due("12: tear(7)", x.tear(7), 2);
        Check.due("12: tear of one gone", x.tear(0), LATE);
        Check.due("12: tear of one on a spike", x.tear(3), LATE);
        Check.due("12: gone", x.about(4), 129);
        for (int slip : NO_SLIPS) {
            Check.due("12: tear(" + slip + ")", x.tear(slip), UNKNOWN);
        }
    }

    private static void forge() {
        SpikeTown x = Check.townOf("RS13");
        x.tear(0);
        x.tear(7);
        Check.due("13: forge(7)", x.forge(7), 1);
        Check.due("13: in hand", x.slip(7, 2), 1);
        Check.due("13: forge of one in hand", x.forge(7), LATE);
        Check.due("13: forge of one on a spike", x.forge(3), LATE);
        Check.due("13: forge(0)", x.forge(0), 0);
        for (int slip : NO_SLIPS) {
            Check.due("13: forge(" + slip + ")", x.forge(slip), UNKNOWN);
        }
    }

    private static void night() {
        SpikeTown x = Check.townOf("RS05S02S07S01S13S14S16S20");
        Check.due("14: night", x.night(), 2);
        Check.due("14: gone", x.about(4), 32 + 8);
        Check.due("14: the lowest then", x.spike(0, 1), 2);
        Check.due("14: one lower", x.slip(1, 1), 2);
        Check.due("14: two stay", x.spike(1, 0), 2);
        Check.due("14: night", x.night(), 1);
        Check.due("14: night", x.night(), 0);
        Check.due("14: the night", x.about(1), 3);
        Check.due("14: on spikes", x.about(2), 128 + 2 + 16 + 64 + 1);
        Check.due("14: acts", x.about(6), 3);
    }

    private static void audit() {
        SpikeTown x = Check.townOf("RS05S02S07S01S13S14");
        Check.due("15: audit(0)", x.audit(0), 5);
        int[] heights = {NONE, 0, 2, 0, 1, 3, NONE, 1};
        for (int slip = 0; slip < 8; slip++) {
            Check.due("15: height of " + slip, x.slip(slip, 1), heights[slip]);
        }
        Check.due("15: audit(1)", x.audit(1), 3);
        Check.due("15: audit of no slips", x.audit(2), NONE);
        Check.due("15: acts", x.about(6), 3);
        for (int spike : NO_SPIKES) {
            Check.due("15: audit(" + spike + ")", x.audit(spike), UNKNOWN);
        }
        Check.due("15: acts", x.about(6), 3);
    }

    private static void undo() {
        SpikeTown x = Check.townOf("RS05S02S07S01S13S14T0527");
        String[] pictures = new String[8];
        int acts = 0;
        pictures[acts++] = Check.pictureOf(x);
        x.put(6, 1);
        pictures[acts++] = Check.pictureOf(x);
        x.take(0);
        pictures[acts++] = Check.pictureOf(x);
        x.tear(1);
        pictures[acts++] = Check.pictureOf(x);
        x.forge(1);
        pictures[acts++] = Check.pictureOf(x);
        x.night();
        pictures[acts++] = Check.pictureOf(x);
        x.audit(0);
        pictures[acts++] = Check.pictureOf(x);
        x.audit(2);
        for (int left = 6; left >= 0; left--) {
            Check.due("16: undo", x.undo(), left);
            Check.holds("16: all is as it was ahead of act " + left, Check.pictureOf(x).equals(pictures[left]));
        }
        Check.due("16: undo of nothing", x.undo(), LATE);
        Check.holds("16: it changes nothing", Check.pictureOf(x).equals(pictures[0]));
    }

    /** Fourteen acts are remembered, the first of fifteen is not. */
    private static void fullRow() {
        SpikeTown x = new SpikeTown();
        x.tear(7);
        for (int i = 0; i < 14; i++) {
            Check.due("16: acts", x.about(6), i + 1);
            x.night();
        }
        Check.due("16: acts", x.about(6), 14);
        for (int left = 13; left >= 0; left--) {
            Check.due("16: undo", x.undo(), left);
            Check.due("16: the night", x.about(1), left);
        }
        Check.due("16: undo of the forgotten one", x.undo(), LATE);
        Check.due("16: it stays done", x.slip(7, 2), 2);
        x.put(0, 0);
        Check.due("16: acts after it", x.about(6), 1);
    }

    private static void refusedActs() {
        SpikeTown x = Check.townOf("RS13");
        x.tear(0);
        String before = Check.pictureOf(x);
        x.put(0, 0);
        x.put(3, 0);
        x.put(8, 0);
        x.put(1, 3);
        x.take(0);
        x.take(3);
        x.tear(0);
        x.tear(3);
        x.tear(8);
        x.forge(1);
        x.forge(3);
        x.forge(-1);
        x.audit(3);
        Check.holds("10 to 15: what is refused changes nothing", Check.pictureOf(x).equals(before));
        Check.due("16: it is no act", x.undo(), 0);
    }
}
