/** Promises 30 and 31: kept and gone on from. */
public final class SlotTest {
    private static final int UNKNOWN = -1, LATE = -3;
    private static final int[] NO_SLOTS = {Integer.MIN_VALUE, -1, 2, Integer.MAX_VALUE};

    public static void main(String[] args) {
        refused();
        keptAndGoneOnFrom();
        twoSlots();
        whatStays();
        Check.end();
    }

    private static void refused() {
        SpikeTown x = new SpikeTown();
        x.put(0, 0);
        for (int slot : NO_SLOTS) {
            Check.due("30: keep(" + slot + ")", x.keep(slot), UNKNOWN);
            Check.due("31: again(" + slot + ")", x.again(slot), UNKNOWN);
        }
        Check.due("31: again(0)", x.again(0), LATE);
        Check.due("31: again(1)", x.again(1), LATE);
        x.keep(1);
        Check.due("31: again of the other", x.again(0), LATE);
        Check.due("31: acts stay", x.about(6), 1);
    }

    private static void keptAndGoneOnFrom() {
        SpikeTown x = Check.townOf("RS00S01S02S13T0012");
        x.tear(7);
        x.night();
        x.night();
        String before = Check.pictureOf(x);
        Check.due("30: keep", x.keep(0), 2);
        Check.holds("30: keep changes nothing", Check.pictureOf(x).equals(before));
        x.night();
        x.undo();
        x.undo();
        x.undo();
        x.undo();
        x.take(1);
        x.audit(0);
        Check.due("31: again", x.again(0), 2);
        Check.due("31: acts", x.about(6), 0);
        Check.due("31: undo", x.undo(), LATE);
        x.night();
        x.night();
        x.night();
        x.undo();
        x.undo();
        x.undo();
        x.forge(7);
        Check.due("31: again twice", x.again(0), 2);
        Check.due("31: on spikes", x.about(2), 2 + 4 + 8);
        Check.due("31: gone", x.about(4), 128 + 1);
        Check.due("31: slip 2's height", x.slip(2, 1), 1);
        Check.due("31: slip 3's spike", x.slip(3, 0), 1);
        Check.due("31: the night", x.about(1), 2);
    }

    private static void twoSlots() {
        SpikeTown x = new SpikeTown();
        x.put(3, 2);
        x.keep(0);
        x.night();
        x.put(4, 1);
        x.keep(1);
        x.take(1);
        Check.due("31: again(0)", x.again(0), 0);
        Check.due("31: on spikes", x.about(2), 8);
        Check.due("31: again(1)", x.again(1), 1);
        Check.due("31: on spikes", x.about(2), 8 + 16);
        x.night();
        x.tear(0);
        Check.due("30: keep over it", x.keep(0), 2);
        x.forge(0);
        Check.due("31: again(0)", x.again(0), 2);
        Check.due("31: gone", x.about(4), 1);
    }

    private static void whatStays() {
        SpikeTown x = Check.townOf("RS00T0000");
        x.keep(0);
        x.swear(0, 1);
        x.seed(9);
        x.wipe();
        x.write('R');
        x.again(0);
        Check.due("31: sworn stays", x.about(7), 1);
        Check.due("31: the seed stays", x.seed(0), 9);
        Check.due("31: the text stays", x.about(8), 1);
        Check.due("31: things stay", x.about(0), 1);
    }
}
