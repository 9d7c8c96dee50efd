/**
 * What the document says of refusals, promise by promise: which call is refused when, what of several is told
 * first, that nothing is changed by it, and that the nearest call on the other side is not refused.
 */
public final class RefusalTest {
    private static final int UNKNOWN = -1, BAD = -2, LATE = -3, FULL = -4, NONE = -9;
    private static final String FIVE_SLIPS_SIX_THINGS = "RS00S01S02S13S14T0012T1345T2567T3ABCT1D01T0AAA";

    public static void main(String[] args) {
        newIsRefusedNothing();
        write();
        wipeAndFault();
        townIsLate();
        about();
        slip();
        spike();
        thing();
        put();
        take();
        tear();
        forge();
        nightIsNeverRefused();
        audit();
        undoIsLate();
        later();
        lasts();
        wants();
        breaks();
        judge();
        share();
        swear();
        unswearIsNeverRefused();
        may();
        rests();
        fires();
        seedIsNeverRefused();
        years();
        keep();
        again();
        Check.end();
    }

    // ---- states

    /** Slips 1, 2 on spike 0 and 3, 5 on spike 1; 4 in hand; 0, 6, 7 gone; things 1, 2 so, 0 not; slot 0 kept. */
    private static SpikeTown busy() {
        SpikeTown x = Check.townOf("RS00S01S02S13T0012T2456T1A55");
        x.tear(7);
        x.tear(6);
        x.put(5, 1);
        x.keep(0);
        x.night();
        x.seed(77);
        x.swear(0, 1);
        x.swear(1, 0);
        x.write('X');
        return x;
    }

    /** All rows are full: 48 bytes, 14 acts, 6 sworn, 6 things, both slots kept. Slip 5 goes on and off spike 2. */
    private static SpikeTown full() {
        SpikeTown x = Check.townOf(FIVE_SLIPS_SIX_THINGS);
        x.write('S');
        x.write('0');
        for (int many = 0; many < 6; many++) {
            x.swear(many, many % 2);
        }
        x.keep(0);
        for (int i = 0; i < 7; i++) {
            x.put(5, 2);
            x.take(2);
        }
        x.keep(1);
        x.seed(-1);
        return x;
    }

    /** A town of no parts. */
    private static SpikeTown bare() {
        SpikeTown x = Check.townOf("R");
        x.seed(5);
        return x;
    }

    /** Numbers beside 0 .. many - 1, near ones and such as wrap to one of them. */
    private static int[] beside(int many) {
        return new int[] {-1, many, -many, many + 256, 1 << 16, Integer.MIN_VALUE, Integer.MAX_VALUE};
    }

    // ---- the town

    private static void newIsRefusedNothing() {
        Check.holds("1: a new object stands", new SpikeTown().about(0) == 0);
    }

    private static void write() {
        for (int letter : beside(256)) {
            Twins.refused("2: write(" + letter + ")", RefusalTest::busy, x -> x.write(letter), BAD);
            Twins.refused("2: BAD ahead of FULL, write(" + letter + ")", RefusalTest::full, x -> x.write(letter), BAD);
        }
        for (int letter : new int[] {0, 'R', 255}) {
            Twins.refused("2: write(" + letter + ") at 48", RefusalTest::full, x -> x.write(letter), FULL);
            Twins.done("2: write(" + letter + ")", RefusalTest::busy, x -> x.write(letter), 30);
        }
    }

    private static void wipeAndFault() {
        Twins.done("3: wipe at 48", RefusalTest::full, x -> x.wipe(), 48);
        Twins.unchanged("3: wipe of nothing", SpikeTown::new, x -> x.wipe());
        Twins.unchanged("4: fault", RefusalTest::busy, x -> x.fault());
        Twins.unchanged("4: fault at 48", RefusalTest::full, x -> x.fault());
    }

    private static void townIsLate() {
        Twins.refused("5: town of no text", SpikeTown::new, x -> x.town(), LATE);
        Twins.refused("5: town with a fault", RefusalTest::busy, x -> x.town(), LATE);
        Twins.refused("5: town that is only not at its end", RefusalTest::full, x -> x.town(), LATE);
        Twins.done("5: town of a text without a fault", () -> {
            SpikeTown x = busy();
            Check.write(x, "RS17");
            return x;
        }, x -> x.town(), 10);
    }

    private static void about() {
        for (int what : beside(9)) {
            Twins.refused("6: about(" + what + ")", RefusalTest::busy, x -> x.about(what), BAD);
        }
        SpikeTown x = busy();
        Check.due("6: about(0)", x.about(0), 3);
        Check.due("6: about(8)", x.about(8), 29);
    }

    private static void slip() {
        for (int slip : beside(8)) {
            Twins.refused("7: slip(" + slip + ", 0)", RefusalTest::busy, x -> x.slip(slip, 0), UNKNOWN);
            Twins.refused("7: slip(" + slip + ", 3)", RefusalTest::busy, x -> x.slip(slip, 3), UNKNOWN);
            Twins.refused("7: UNKNOWN ahead of BAD, slip(" + slip + ", 4)", RefusalTest::busy,
                x -> x.slip(slip, 4), UNKNOWN);
        }
        for (int what : beside(4)) {
            Twins.refused("7: slip(0, " + what + ")", RefusalTest::busy, x -> x.slip(0, what), BAD);
            Twins.refused("7: slip(7, " + what + ")", RefusalTest::busy, x -> x.slip(7, what), BAD);
        }
        SpikeTown x = busy();
        Check.due("7: slip(0, 0)", x.slip(0, 0), NONE);
        Check.due("7: slip(7, 2)", x.slip(7, 2), 2);
        Check.due("7: slip(0, 3)", x.slip(0, 3), 1);
        Check.due("7: slip(7, 3)", x.slip(7, 3), 0);
    }

    private static void spike() {
        for (int spike : beside(3)) {
            Twins.refused("8: spike(" + spike + ", 0)", RefusalTest::busy, x -> x.spike(spike, 0), UNKNOWN);
            Twins.refused("8: UNKNOWN ahead of BAD, spike(" + spike + ", 3)", RefusalTest::busy,
                x -> x.spike(spike, 3), UNKNOWN);
        }
        for (int what : beside(3)) {
            Twins.refused("8: spike(0, " + what + ")", RefusalTest::busy, x -> x.spike(0, what), BAD);
            Twins.refused("8: spike(2, " + what + ")", RefusalTest::busy, x -> x.spike(2, what), BAD);
        }
        SpikeTown x = busy();
        Check.due("8: spike(0, 0)", x.spike(0, 0), 2);
        Check.due("8: spike(0, 2)", x.spike(0, 2), 2);
        Check.due("8: spike(2, 0)", x.spike(2, 0), 0);
        Check.due("8: spike(2, 2)", x.spike(2, 2), NONE);
    }

    private static void thing() {
        for (int thing : beside(3)) {
            Twins.refused("9: thing(" + thing + ", 0)", RefusalTest::busy, x -> x.thing(thing, 0), UNKNOWN);
            Twins.refused("9: thing(" + thing + ", 4)", RefusalTest::busy, x -> x.thing(thing, 4), UNKNOWN);
            Twins.refused("9: UNKNOWN ahead of BAD, thing(" + thing + ", 5)", RefusalTest::busy,
                x -> x.thing(thing, 5), UNKNOWN);
        }
        for (int what : beside(5)) {
            Twins.refused("9: thing(0, " + what + ")", RefusalTest::busy, x -> x.thing(0, what), BAD);
            Twins.refused("9: thing(2, " + what + ")", RefusalTest::busy, x -> x.thing(2, what), BAD);
        }
        Twins.refused("9: thing(0, 0) of a new object", SpikeTown::new, x -> x.thing(0, 0), UNKNOWN);
        Twins.refused("9: thing(6, 0) of six", RefusalTest::full, x -> x.thing(6, 0), UNKNOWN);
        Check.due("9: thing(5, 0) of six", full().thing(5, 0), 0);
        Check.due("9: thing(2, 0) of three", busy().thing(2, 0), 1);
        Check.due("9: thing(0, 4)", busy().thing(0, 4), 0);
        Check.due("9: thing(2, 4)", busy().thing(2, 4), 1);
    }

    // ---- acts

    private static void put() {
        for (int slip : beside(8)) {
            Twins.refused("10: put(" + slip + ", 0)", RefusalTest::busy, x -> x.put(slip, 0), UNKNOWN);
            Twins.refused("10: put(" + slip + ", 3)", RefusalTest::full, x -> x.put(slip, 3), UNKNOWN);
        }
        for (int spike : beside(3)) {
            Twins.refused("10: put(4, " + spike + ")", RefusalTest::busy, x -> x.put(4, spike), UNKNOWN);
            Twins.refused("10: UNKNOWN ahead of LATE, put(0, " + spike + ")", RefusalTest::busy,
                x -> x.put(0, spike), UNKNOWN);
            Twins.refused("10: UNKNOWN ahead of LATE, put(1, " + spike + ")", RefusalTest::busy,
                x -> x.put(1, spike), UNKNOWN);
        }
        for (int spike = 0; spike < 3; spike++) {
            int onto = spike;
            Twins.refused("10: put of one gone", RefusalTest::busy, x -> x.put(0, onto), LATE);
            Twins.refused("10: put of one on a spike", RefusalTest::busy, x -> x.put(2, onto), LATE);
            Twins.refused("10: put of one on a spike, rows full", RefusalTest::full, x -> x.put(0, onto), LATE);
            Twins.done("10: put(4, " + onto + ")", RefusalTest::busy, x -> x.put(4, onto), onto == 2 ? 0 : 2);
        }
        Twins.done("10: put(7, 0)", RefusalTest::full, x -> x.put(7, 0), 3);
        Twins.done("10: put(0, 0)", SpikeTown::new, x -> x.put(0, 0), 0);
    }

    private static void take() {
        for (int spike : beside(3)) {
            Twins.refused("11: take(" + spike + ")", RefusalTest::busy, x -> x.take(spike), UNKNOWN);
            Twins.refused("11: UNKNOWN ahead of LATE, take(" + spike + ")", SpikeTown::new,
                x -> x.take(spike), UNKNOWN);
        }
        for (int spike = 0; spike < 3; spike++) {
            int from = spike;
            Twins.refused("11: take of none", SpikeTown::new, x -> x.take(from), LATE);
        }
        Twins.refused("11: take of none", RefusalTest::busy, x -> x.take(2), LATE);
        Twins.refused("11: take of none, rows full", RefusalTest::full, x -> x.take(2), LATE);
        Twins.done("11: take(0)", RefusalTest::busy, x -> x.take(0), 2);
        Twins.done("11: take(1)", RefusalTest::busy, x -> x.take(1), 5);
    }

    private static void tear() {
        for (int slip : beside(8)) {
            Twins.refused("12: tear(" + slip + ")", RefusalTest::busy, x -> x.tear(slip), UNKNOWN);
        }
        for (int slip : new int[] {1, 2, 3, 5}) {
            Twins.refused("12: tear of one on a spike", RefusalTest::busy, x -> x.tear(slip), LATE);
        }
        for (int slip : new int[] {0, 6, 7}) {
            Twins.refused("12: tear of one gone", RefusalTest::busy, x -> x.tear(slip), LATE);
        }
        Twins.refused("12: tear of one on a spike, rows full", RefusalTest::full, x -> x.tear(0), LATE);
        Twins.done("12: tear of one in hand", RefusalTest::busy, x -> x.tear(4), 4);
        Twins.done("12: tear(0)", SpikeTown::new, x -> x.tear(0), 1);
        Twins.done("12: tear(7)", SpikeTown::new, x -> x.tear(7), 1);
    }

    private static void forge() {
        for (int slip : beside(8)) {
            Twins.refused("13: forge(" + slip + ")", RefusalTest::busy, x -> x.forge(slip), UNKNOWN);
        }
        for (int slip : new int[] {1, 2, 3, 5}) {
            Twins.refused("13: forge of one on a spike", RefusalTest::busy, x -> x.forge(slip), LATE);
        }
        Twins.refused("13: forge of one in hand", RefusalTest::busy, x -> x.forge(4), LATE);
        Twins.refused("13: forge of one in hand, rows full", RefusalTest::full, x -> x.forge(7), LATE);
        Twins.done("13: forge(0)", RefusalTest::busy, x -> x.forge(0), 2);
        Twins.done("13: forge(7)", RefusalTest::busy, x -> x.forge(7), 2);
    }

    private static void nightIsNeverRefused() {
        Twins.done("14: night over nothing", SpikeTown::new, x -> x.night(), 0);
        Twins.done("14: night over two", RefusalTest::busy, x -> x.night(), 0);
        Twins.done("14: night, rows full", RefusalTest::full, x -> x.night(), 1);
    }

    private static void audit() {
        for (int spike : beside(3)) {
            Twins.refused("15: audit(" + spike + ")", RefusalTest::busy, x -> x.audit(spike), UNKNOWN);
            Twins.refused("15: audit(" + spike + "), rows full", RefusalTest::full, x -> x.audit(spike), UNKNOWN);
        }
        Twins.done("15: audit of none, an act", RefusalTest::busy, x -> x.audit(2), NONE);
        Twins.done("15: audit(0)", RefusalTest::busy, x -> x.audit(0), 1);
    }

    private static void undoIsLate() {
        Twins.refused("16: undo of none", SpikeTown::new, x -> x.undo(), LATE);
        Twins.refused("16: undo when the town is anew", RefusalTest::bare, x -> x.undo(), LATE);
        Twins.refused("16: undo when gone on from a slot", () -> {
            SpikeTown x = busy();
            x.again(0);
            return x;
        }, x -> x.undo(), LATE);
        Twins.refused("16: undo of a forgotten act", () -> {
            SpikeTown x = full();
            x.night();
            for (int i = 0; i < 14; i++) {
                x.undo();
            }
            return x;
        }, x -> x.undo(), LATE);
        Twins.done("16: undo of one of four", RefusalTest::busy, x -> x.undo(), 3);
        Twins.done("16: undo of one of 14", RefusalTest::full, x -> x.undo(), 13);
    }

    // ---- nights to come, slips

    private static void later() {
        for (int n : beside(21)) {
            Twins.refused("17: later(" + n + ")", RefusalTest::full, x -> x.later(n), BAD);
        }
        for (int n : new int[] {0, 1, 20}) {
            Twins.unchanged("17: later(" + n + ")", RefusalTest::full, x -> x.later(n));
        }
        Check.due("17: later(0)", busy().later(0), 2 + 4);
        Check.due("17: later(20)", busy().later(20), 2 + 4);
    }

    private static void lasts() {
        for (int thing : beside(3)) {
            Twins.refused("18: lasts(" + thing + ")", RefusalTest::busy, x -> x.lasts(thing), UNKNOWN);
        }
        Twins.refused("18: lasts(0) of no things", RefusalTest::bare, x -> x.lasts(0), UNKNOWN);
        Twins.refused("18: lasts of what is not so", RefusalTest::busy, x -> x.lasts(0), LATE);
        Twins.unchanged("18: lasts of what is so", RefusalTest::full, x -> x.lasts(0));
        Check.due("18: lasts of what is so", full().lasts(0), 1);
        Check.due("18: lasts of what stays so", busy().lasts(1), NONE);
    }

    private static void wants() {
        for (int thing : beside(3)) {
            Twins.refused("19: wants(" + thing + ")", RefusalTest::busy, x -> x.wants(thing), UNKNOWN);
        }
        Twins.refused("19: wants(0) of no things", RefusalTest::bare, x -> x.wants(0), UNKNOWN);
        Twins.unchanged("19: wants(0)", RefusalTest::busy, x -> x.wants(0));
        Check.due("19: wants(0)", busy().wants(0), 1);
        Check.due("19: wants(2)", busy().wants(2), 0);
    }

    private static void breaks() {
        for (int thing : beside(3)) {
            Twins.refused("20: breaks(" + thing + ")", RefusalTest::busy, x -> x.breaks(thing), UNKNOWN);
        }
        Twins.refused("20: breaks(0) of no things", RefusalTest::bare, x -> x.breaks(0), UNKNOWN);
        Twins.unchanged("20: breaks(2)", RefusalTest::busy, x -> x.breaks(2));
        Check.due("20: breaks(0)", busy().breaks(0), 0);
        Check.due("20: breaks(2)", busy().breaks(2), 32);
    }

    private static void judge() {
        for (int n : new int[] {0, -1, 5, 256, Integer.MIN_VALUE, Integer.MAX_VALUE}) {
            Twins.refused("21: judge(" + n + ", 0)", RefusalTest::busy, x -> x.judge(n, 0), BAD);
        }
        long most = 1;
        for (int n = 1; n <= 4; n++) {
            int many = n;
            most *= 1000;
            for (long row : new long[] {-1, most, -most, Long.MIN_VALUE, Long.MAX_VALUE, 1L << 32 << 4 * n}) {
                Twins.refused("21: judge(" + n + ", " + row + ")", RefusalTest::busy, x -> x.judge(many, row), BAD);
            }
            long row = most - 1;
            Twins.unchanged("21: judge(" + n + ", " + row + ")", RefusalTest::busy, x -> x.judge(many, row));
            Check.due("21: judge(" + n + ", " + row + ")", busy().judge(many, row), 0);
            Check.due("21: judge(" + n + ", 0)", busy().judge(many, 0), NONE);
        }
        Twins.unchanged("21: doings of all kinds", RefusalTest::busy, x -> x.judge(4, 142500201000L));
        Twins.unchanged("21: doings of all kinds", RefusalTest::busy, x -> x.judge(4, 304407601000L));
        Check.due("21: doings that can be", busy().judge(4, 142500201000L), NONE);
        Check.due("21: doings that can be", busy().judge(4, 304407601000L), NONE);
    }

    private static void share() {
        for (int slip : beside(8)) {
            Twins.refused("22: share(" + slip + ", true)", RefusalTest::busy, x -> x.share(slip, true), UNKNOWN);
            Twins.refused("22: share(" + slip + ", false)", RefusalTest::busy, x -> x.share(slip, false), UNKNOWN);
        }
        for (int slip = 0; slip < 8; slip++) {
            int one = slip;
            Twins.unchanged("22: share(" + slip + ", true)", RefusalTest::busy, x -> x.share(one, true));
        }
        Check.dueFraction("22: share(0)", busy().share(0, true), busy().share(0, false), 0, 1);
        Check.dueFraction("22: share(7)", busy().share(7, true), busy().share(7, false), 0, 1);
    }

    // ---- sworn

    private static void swear() {
        for (int thing : beside(3)) {
            Twins.refused("23: swear(" + thing + ", 1)", RefusalTest::busy, x -> x.swear(thing, 1), UNKNOWN);
            Twins.refused("23: UNKNOWN ahead of BAD, swear(" + thing + ", 2)", RefusalTest::busy,
                x -> x.swear(thing, 2), UNKNOWN);
        }
        for (int so : beside(2)) {
            Twins.refused("23: swear(0, " + so + ")", RefusalTest::busy, x -> x.swear(0, so), BAD);
            Twins.refused("23: BAD ahead of FULL, swear(0, " + so + ")", RefusalTest::full, x -> x.swear(0, so), BAD);
        }
        Twins.refused("23: UNKNOWN ahead of FULL", RefusalTest::full, x -> x.swear(6, 0), UNKNOWN);
        Twins.refused("23: swear(0, 0) at 6", RefusalTest::full, x -> x.swear(0, 0), FULL);
        Twins.refused("23: swear(5, 1) at 6", RefusalTest::full, x -> x.swear(5, 1), FULL);
        Twins.done("23: swear(2, 0)", RefusalTest::busy, x -> x.swear(2, 0), 3);
        Twins.done("23: swear(2, 1)", RefusalTest::busy, x -> x.swear(2, 1), 3);
    }

    private static void unswearIsNeverRefused() {
        Twins.unchanged("24: unswear of nothing", RefusalTest::bare, x -> x.unswear());
        Twins.done("24: unswear of six", RefusalTest::full, x -> x.unswear(), 6);
        Check.due("24: unswear of nothing", bare().unswear(), 0);
    }

    private static void may() {
        for (int what : beside(2)) {
            Twins.refused("25: may(" + what + ")", RefusalTest::busy, x -> x.may(what), BAD);
        }
        Twins.unchanged("25: may(0)", RefusalTest::busy, x -> x.may(0));
        Twins.unchanged("25: may(1)", RefusalTest::busy, x -> x.may(1));
        Check.due("25: may(0) of a new object", new SpikeTown().may(0), 256);
        Check.due("25: may(1) of a new object", new SpikeTown().may(1), 0);
    }

    // ---- rests, chances

    private static void rests() {
        for (int thing : beside(3)) {
            Twins.refused("26: rests(" + thing + ", 0, 0)", RefusalTest::busy, x -> x.rests(thing, 0, 0), UNKNOWN);
            Twins.refused("26: rests(0, " + thing + ", 0)", RefusalTest::busy, x -> x.rests(0, thing, 0), UNKNOWN);
            Twins.refused("26: UNKNOWN ahead of BAD, both are " + thing, RefusalTest::busy,
                x -> x.rests(thing, thing, 0), UNKNOWN);
            Twins.refused("26: UNKNOWN ahead of BAD, rests(" + thing + ", 0, 2)", RefusalTest::busy,
                x -> x.rests(thing, 0, 2), UNKNOWN);
            Twins.refused("26: UNKNOWN ahead of BAD, rests(0, " + thing + ", 2)", RefusalTest::busy,
                x -> x.rests(0, thing, 2), UNKNOWN);
        }
        for (int what : beside(2)) {
            Twins.refused("26: rests(0, 1, " + what + ")", RefusalTest::busy, x -> x.rests(0, 1, what), BAD);
            Twins.refused("26: rests(2, 2, " + what + ")", RefusalTest::busy, x -> x.rests(2, 2, what), BAD);
        }
        for (int thing = 0; thing < 3; thing++) {
            int both = thing;
            Twins.refused("26: both are one", RefusalTest::busy, x -> x.rests(both, both, 0), BAD);
            Twins.refused("26: both are one", RefusalTest::busy, x -> x.rests(both, both, 1), BAD);
        }
        Twins.unchanged("26: rests(0, 2, 0)", RefusalTest::busy, x -> x.rests(0, 2, 0));
        Twins.unchanged("26: rests(5, 0, 1)", RefusalTest::full, x -> x.rests(5, 0, 1));
        Check.holds("26: rests(0, 2, 0) is told", busy().rests(0, 2, 0) >= 0);
        Check.holds("26: rests(2, 0, 0) is told", busy().rests(2, 0, 0) >= 0);
    }

    private static void fires() {
        for (int thing : beside(3)) {
            Twins.refused("27: fires(" + thing + ", 5)", RefusalTest::busy, x -> x.fires(thing, 5, true), UNKNOWN);
            Twins.refused("27: UNKNOWN ahead of BAD, fires(" + thing + ", 11)", RefusalTest::busy,
                x -> x.fires(thing, 11, false), UNKNOWN);
        }
        for (int tenths : beside(11)) {
            Twins.refused("27: fires(2, " + tenths + ")", RefusalTest::busy, x -> x.fires(2, tenths, true), BAD);
            Twins.refused("27: fires(2, " + tenths + ")", RefusalTest::busy, x -> x.fires(2, tenths, false), BAD);
        }
        for (int tenths = 0; tenths <= 10; tenths++) {
            int by = tenths;
            Twins.unchanged("27: fires(2, " + tenths + ")", RefusalTest::busy, x -> x.fires(2, by, true));
        }
        Check.due("27: fires(2, 0)", busy().fires(2, 0, true), 1);
        Check.due("27: fires(2, 10)", busy().fires(2, 10, true), 0);
    }

    private static void seedIsNeverRefused() {
        for (long v : new long[] {Long.MIN_VALUE, -1, 0, 1, Long.MAX_VALUE}) {
            Twins.done("28: seed(" + v + ")", RefusalTest::busy, x -> x.seed(v), 77);
        }
        Twins.unchanged("28: the same seed", RefusalTest::busy, x -> x.seed(77));
    }

    private static void years() {
        for (int m : new int[] {0, -1, 31, -30, 256 + 1, Integer.MIN_VALUE, Integer.MAX_VALUE}) {
            Twins.refused("29: years(" + m + ")", RefusalTest::busy, x -> x.years(m), BAD);
        }
        for (int m : new int[] {1, 2, 29, 30}) {
            Twins.unchanged("29: years(" + m + ") and THE SEED back", RefusalTest::busy, x -> x.years(m) + x.seed(77));
            Check.holds("29: years(" + m + ") is told", busy().years(m) >= 0);
        }
    }

    // ---- slots

    private static void keep() {
        for (int slot : beside(2)) {
            Twins.refused("30: keep(" + slot + ")", RefusalTest::busy, x -> x.keep(slot), UNKNOWN);
            Twins.refused("30: keep(" + slot + "), rows full", RefusalTest::full, x -> x.keep(slot), UNKNOWN);
        }
        Twins.done("30: keep(0)", RefusalTest::busy, x -> x.keep(0), 1);
        Twins.done("30: keep(1)", RefusalTest::busy, x -> x.keep(1), 1);
    }

    private static void again() {
        for (int slot : beside(2)) {
            Twins.refused("31: again(" + slot + ")", RefusalTest::busy, x -> x.again(slot), UNKNOWN);
            Twins.refused("31: UNKNOWN ahead of LATE, again(" + slot + ")", SpikeTown::new,
                x -> x.again(slot), UNKNOWN);
        }
        Twins.refused("31: again(0) when none were kept", SpikeTown::new, x -> x.again(0), LATE);
        Twins.refused("31: again(1) when none were kept", SpikeTown::new, x -> x.again(1), LATE);
        Twins.refused("31: again(1) when others were kept", RefusalTest::busy, x -> x.again(1), LATE);
        Twins.done("31: again(0)", RefusalTest::busy, x -> x.again(0), 0);
        Twins.done("31: again(0)", RefusalTest::full, x -> x.again(0), 0);
        Twins.done("31: again(1)", RefusalTest::full, x -> x.again(1), 0);
    }
}
