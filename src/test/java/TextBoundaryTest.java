/**
 * THE TEXT and THE TOWN, promises 1 to 6 and 9: a test for each sentence of the document that names a boundary
 * case, on both sides of it.
 */
public final class TextBoundaryTest {
    private static final int UNKNOWN = -1, BAD = -2, LATE = -3, FULL = -4, NONE = -9;
    private static final String EIGHT_SLIPS = "RS00S11S22S03S14S25S06S17";
    private static final String SIX_THINGS = "RT0000T1A11T20B2T3C33T04D4T1E5A";

    public static void main(String[] args) {
        atFirst();
        aByteIs0To255();
        theTextIs48BytesAtMost();
        wipeEmptiesAnyText();
        aTownIsRThenParts();
        aPartIsOfASlipOrAThing();
        aSpikeIs0To2();
        aSlipIs0To7();
        aSlipIsNotToldYet();
        aKindIs0To3();
        aGroundIsASlip();
        aGroundIsAThingToldAhead();
        thingsAreSixAtMost();
        aTextOfNoBytes();
        cutShortItIsOnlyNotAtItsEnd();
        theFirstFaultIsTold();
        whatComesBehindMendsNothing();
        itsLengthIsSetAside();
        townTellsSlipsAndThings();
        aSlipToldLaterIsOnTop();
        madeAnew();
        theTextItselfStays();
        whatWasKeptIsGone();
        swornAndTheSeedStay();
        numbersOfThingsEndWithThem();
        groundsAreToldBack();
        Check.end();
    }

    private static int faultOf(String text) {
        SpikeTown x = new SpikeTown();
        Check.write(x, text);
        return x.fault();
    }

    private static void fault(String text, int want) {
        Check.due("4: fault of " + text, faultOf(text), want);
    }

    /** Puts each of the 256 bytes behind a text: those that may come there have one fault, all others another. */
    private static void nextBytes(String text, String allowed, int faultIfAllowed) {
        for (char letter = 0; letter < 256; letter++) {
            int want = allowed.indexOf(letter) >= 0 ? faultIfAllowed : text.length();
            Check.due("4: fault of " + text + " and byte " + (int) letter, faultOf(text + letter), want);
        }
    }

    // ---- 1: a new object

    private static void atFirst() {
        SpikeTown x = new SpikeTown();
        Check.due("1: all slips in hand", x.about(3), 255);
        Check.due("1: none on spikes", x.about(2), 0);
        Check.due("1: none gone", x.about(4), 0);
        Check.due("1: no things", x.about(0), 0);
        Check.due("1: nothing is so", x.about(5), 0);
        Check.due("1: the night", x.about(1), 0);
        Check.due("1: no acts", x.about(6), 0);
        Check.due("1: nothing is sworn", x.about(7), 0);
        Check.due("1: no text", x.about(8), 0);
        Check.due("1: no thing 0", x.thing(0, 0), UNKNOWN);
        Check.due("1: nothing is kept", x.again(0), LATE);
        Check.due("1: nothing is kept", x.again(1), LATE);
        Check.due("1: the seed is 0", x.seed(1), 0);
        for (int slip = 0; slip < 8; slip++) {
            Check.due("1: slip " + slip + " in hand", x.slip(slip, 2), 1);
            Check.due("1: on no spike", x.slip(slip, 0), NONE);
            Check.due("1: at no height", x.slip(slip, 1), NONE);
        }
        for (int spike = 0; spike < 3; spike++) {
            Check.due("1: no slip on spike " + spike, x.spike(spike, 0), 0);
        }
    }

    // ---- 2, 3: bytes

    private static void aByteIs0To255() {
        for (int letter = 0; letter < 256; letter++) {
            SpikeTown x = new SpikeTown();
            Check.due("2: write(" + letter + ")", x.write(letter), 1);
            Check.due("2: byte " + letter + " is no R but 82", x.fault(), letter == 82 ? NONE : 0);
        }
        SpikeTown x = new SpikeTown();
        for (int letter : new int[] {-1, 256, 82 + 256, 82 - 256, 82 + 65536}) {
            Check.due("2: write(" + letter + ")", x.write(letter), BAD);
        }
        Check.due("2: no bytes by them", x.about(8), 0);
    }

    private static void theTextIs48BytesAtMost() {
        SpikeTown x = new SpikeTown();
        for (int i = 1; i <= 48; i++) {
            Check.due("2: as long as bytes are written", x.write(i == 1 ? 'R' : i == 48 ? 'T' : 'S'), i);
        }
        Check.due("2: the 49th", x.write('R'), FULL);
        Check.due("2: the 50th", x.write(0), FULL);
        Check.due("2: 48 as ever", x.about(8), 48);
        Check.due("2: none is another", x.fault(), 2);
        x.wipe();
        Check.due("2: there is room again", x.write('R'), 1);
    }

    private static void wipeEmptiesAnyText() {
        for (int length : new int[] {0, 1, 47, 48}) {
            SpikeTown x = new SpikeTown();
            for (int i = 0; i < length; i++) {
                x.write('R');
            }
            Check.due("3: wipe of " + length, x.wipe(), length);
            Check.due("3: it is empty", x.about(8), 0);
            Check.due("3: fault of nothing", x.fault(), 0);
            Check.due("3: wipe of nothing", x.wipe(), 0);
        }
    }

    // ---- 4: what may come where

    private static void aTownIsRThenParts() {
        nextBytes("", "R", NONE);
        fault("R", NONE);
        fault("RR", 1);
    }

    private static void aPartIsOfASlipOrAThing() {
        nextBytes("R", "ST", 2);
        nextBytes("RS27", "ST", 5);
        nextBytes("RT3777", "ST", 7);
    }

    private static void aSpikeIs0To2() {
        nextBytes("RS", "012", 3);
        nextBytes("RT0000S", "012", 8);
    }

    private static void aSlipIs0To7() {
        nextBytes("RS0", "01234567", NONE);
        nextBytes("RS2", "01234567", NONE);
    }

    private static void aSlipIsNotToldYet() {
        nextBytes("RS00S0", "1234567", NONE);
        nextBytes("RS00S2", "1234567", NONE);
        nextBytes("RS27T0777S2", "0123456", NONE);
        nextBytes("RS00S11S22S03S14S25S06S1", "7", NONE);
        // when all are told no part of a slip can come
        nextBytes(EIGHT_SLIPS, "T", 26);
    }

    private static void aKindIs0To3() {
        nextBytes("RT", "0123", 3);
        nextBytes("RT0000T", "0123", 8);
    }

    private static void aGroundIsASlip() {
        nextBytes("RT0", "01234567", 4);
        nextBytes("RT30", "01234567", 5);
        nextBytes("RT300", "01234567", NONE);
        // a slip that is told and one that is not, alike
        nextBytes("RS00S11S22S03T2", "01234567", 16);
    }

    private static void aGroundIsAThingToldAhead() {
        StringBuilder text = new StringBuilder("R");
        for (int things = 0; things < 6; things++) {
            String grounds = "01234567" + "ABCDEF".substring(0, things);
            nextBytes(text + "T1", grounds, text.length() + 3);
            nextBytes(text + "T10", grounds, text.length() + 4);
            nextBytes(text + "T100", grounds, NONE);
            text.append("T1000");
        }
    }

    private static void thingsAreSixAtMost() {
        fault("RT0000T1A11T20B2T3C33T04D4T1E5A", NONE);
        nextBytes("RT0000T1A11T20B2T3C33T04D4", "ST", 27);
        nextBytes(SIX_THINGS, "S", 32);
        // all slips and as many things as there is room for
        nextBytes(EIGHT_SLIPS + "T0000T0000T0000T0000", "T", 46);
    }

    // ---- 4: which fault

    private static void aTextOfNoBytes() {
        fault("", 0);
        Check.due("5: town of no bytes", new SpikeTown().town(), LATE);
    }

    private static void cutShortItIsOnlyNotAtItsEnd() {
        String text = "";
        for (String part : new String[] {"R", "T0001", "S27", "T1A0A", "S00", "T2BA7", "T3CCC", "S11", "T0DDD"}) {
            for (int cut = 0; cut < part.length(); cut++) {
                // with nothing of the part it is a town, but for R
                boolean whole = cut == 0 && !text.isEmpty();
                fault(text + part.substring(0, cut), whole ? NONE : text.length() + cut);
            }
            text += part;
            fault(text, NONE);
        }
    }

    private static void theFirstFaultIsTold() {
        fault("XX", 0);
        fault("RXS3", 1);
        fault("RS3S4", 2);
        fault("RS08T4", 3);
        fault("RT0A0B", 3);
        fault("RS00S00S00", 6);
    }

    private static void whatComesBehindMendsNothing() {
        fault("SR", 0);
        fault(" R", 0);
        fault("RT0A00T0000", 3);
        fault("RS0", 3);
        fault("RS0S", 3);
        fault("RS0S00", 3);
    }

    private static void itsLengthIsSetAside() {
        // the part that begins at the last byte could be ended only beyond 48
        String slips = "RS00S11S22S03S14S25S06";
        fault(slips + "T0000T0000T0000T0000T0000", NONE);
        fault(slips + "T0000T0000T0000T0000T0000S", 48);
        fault(slips + "T0000T0000T0000T0000T0000T", 48);
        fault(slips + "T0000T0000T0000T0000T0000R", 47);
        // one byte ahead of the end, and three
        fault(EIGHT_SLIPS + "T0000T0000T0000T0000T00", 48);
        fault(SIX_THINGS + "S00S01S02S03S04S0", 48);
        fault(SIX_THINGS + "S00S01S02S03S04S3", 47);
        fault(SIX_THINGS + "S00S01S02S03S04T0", 46);
    }

    // ---- 5, 6, 9: the town

    private static void townTellsSlipsAndThings() {
        townIs("R", 0);
        townIs("RS00", 10);
        townIs("RT0000", 1);
        townIs("RS27T0000", 11);
        townIs(EIGHT_SLIPS, 80);
        townIs(SIX_THINGS, 6);
        townIs(EIGHT_SLIPS + "T0000T0000T0000T0000", 84);
        townIs(SIX_THINGS + "S00S01S02S03S04", 56);
        townIs("RS00S11S22S03S14S25S06T0000T0000T0000T0000T0000", 75);
    }

    private static void townIs(String text, int want) {
        SpikeTown x = new SpikeTown();
        Check.write(x, text);
        Check.due("5: town of " + text, x.town(), want);
        Check.due("5: slips on spikes", Integer.bitCount(x.about(2)), want / 10);
        Check.due("5: others in hand", x.about(3), 255 - x.about(2));
        Check.due("5: things", x.about(0), want % 10);
    }

    private static void aSlipToldLaterIsOnTop() {
        for (int spike = 0; spike < 3; spike++) {
            StringBuilder text = new StringBuilder("R");
            for (int slip = 7; slip >= 0; slip--) {
                text.append('S').append(spike).append(slip);
            }
            SpikeTown x = Check.townOf(text.toString());
            for (int slip = 0; slip < 8; slip++) {
                Check.due("5: spike", x.slip(slip, 0), spike);
                Check.due("5: height", x.slip(slip, 1), 7 - slip);
            }
            Check.due("5: the lowest", x.spike(spike, 1), 7);
            Check.due("5: the top one", x.spike(spike, 2), 0);
        }
    }

    private static void madeAnew() {
        SpikeTown x = Check.townOf("RS00S01S02T0012T1000");
        x.night();
        x.tear(7);
        x.put(6, 2);
        x.take(0);
        Check.write(x, "RS15T0555");
        Check.due("5: town", x.town(), 11);
        Check.due("5: as told", x.about(2), 32);
        Check.due("5: others in hand, gone ones, too", x.about(3), 255 - 32);
        Check.due("5: none gone", x.about(4), 0);
        Check.due("5: the night is 0", x.about(1), 0);
        Check.due("5: no acts", x.about(6), 0);
        Check.due("5: nothing to undo", x.undo(), LATE);
        Check.due("5: one thing", x.about(0), 1);
        Check.due("5: it is so", x.about(5), 1);
        Check.write(x, "R");
        Check.due("5: town of no parts", x.town(), 0);
        Check.due("5: all in hand", x.about(3), 255);
        Check.due("5: no things", x.about(0), 0);
    }

    private static void theTextItselfStays() {
        SpikeTown x = Check.townOf("RS00");
        Check.due("5: bytes", x.about(8), 4);
        Check.due("5: more behind it", x.write('S'), 5);
        Check.due("5: a fault", x.town(), LATE);
        x.write('1');
        x.write('1');
        Check.due("5: all of it", x.town(), 20);
    }

    private static void whatWasKeptIsGone() {
        SpikeTown x = Check.townOf("RS00");
        x.keep(0);
        x.keep(1);
        x.write('X');
        Check.due("5: refused", x.town(), LATE);
        Check.due("5: kept as ever", x.again(0), 0);
        Check.due("5: kept as ever", x.again(1), 0);
        Check.write(x, "R");
        x.town();
        Check.due("5: gone", x.again(0), LATE);
        Check.due("5: gone", x.again(1), LATE);
        x.keep(1);
        Check.due("5: kept anew", x.again(1), 0);
        Check.due("5: the other is gone as ever", x.again(0), LATE);
    }

    private static void swornAndTheSeedStay() {
        SpikeTown x = Check.townOf("RT0000");
        for (int i = 0; i < 6; i++) {
            x.swear(0, 1);
        }
        x.seed(Long.MIN_VALUE);
        x.town();
        Check.due("5: sworn", x.about(7), 6);
        Check.due("5: what is sworn", x.may(0), 128);
        Check.due("5: full as ever", x.swear(0, 1), FULL);
        Check.due("5: the seed", x.seed(0), Long.MIN_VALUE);
    }

    private static void numbersOfThingsEndWithThem() {
        for (int things = 0; things <= 6; things++) {
            SpikeTown x = Check.townOf(SIX_THINGS);
            Check.write(x, "R" + "T3012".repeat(things));
            Check.due("5: town", x.town(), things);
            Check.due("6: things", x.about(0), things);
            for (int thing = 0; thing < 8; thing++) {
                Check.due("9: kind of " + thing + " of " + things, x.thing(thing, 0), thing < things ? 3 : UNKNOWN);
            }
        }
    }

    private static void groundsAreToldBack() {
        SpikeTown x = Check.townOf("RT0070T1770T20A7T3BABT0CACT1EDE");
        int[][] wants = {{0, 0, 7, 0}, {1, 7, 7, 0}, {2, 0, 10, 7}, {3, 11, 10, 11}, {0, 12, 10, 12}, {1, 14, 13, 14}};
        for (int thing = 0; thing < 6; thing++) {
            for (int what = 0; what < 4; what++) {
                Check.due("9: thing(" + thing + ", " + what + ")", x.thing(thing, what), wants[thing][what]);
            }
        }
    }
}
