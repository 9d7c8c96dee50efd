/** Promises 1 to 9: the text, the town, and what is told of it. */
public final class TownTest {
    private static final int UNKNOWN = -1, BAD = -2, LATE = -3, FULL = -4, NONE = -9;
    private static final int[] FAR = {Integer.MIN_VALUE, -9, -1, 1000, Integer.MAX_VALUE};

    public static void main(String[] args) {
        newObject();
        write();
        wipe();
        faults();
        noFaults();
        longTexts();
        town();
        townKeepsAndForgets();
        about();
        slip();
        hangs();
        spike();
        thing();
        kinds();
        Check.end();
    }

    private static void newObject() {
        SpikeTown x = new SpikeTown();
        Check.holds("picture of a new object", Check.pictureOf(x).equals(
            "0 0 0 255 0 0 0 0 0 "
            + "-9/-9/1 -9/-9/1 -9/-9/1 -9/-9/1 -9/-9/1 -9/-9/1 -9/-9/1 -9/-9/1 "
            + "-1 -1 -1 -1 -1 ".repeat(6) + "0"));
        Check.due("1: the seed", x.seed(3), 0);
        Check.due("1: undo", x.undo(), LATE);
        Check.due("1: again(0)", x.again(0), LATE);
        Check.due("1: again(1)", x.again(1), LATE);
        Check.due("1: may(0)", x.may(0), 256);
    }

    private static void write() {
        SpikeTown x = new SpikeTown();
        for (int bad : new int[] {-1, 256, Integer.MIN_VALUE, Integer.MAX_VALUE}) {
            Check.due("2: write(" + bad + ")", x.write(bad), BAD);
        }
        for (int i = 1; i <= 48; i++) {
            Check.due("2: write " + i, x.write(i % 2 == 0 ? 0 : 255), i);
        }
        Check.due("2: write at 48", x.write(0), FULL);
        Check.due("2: write of a bad byte at 48", x.write(256), BAD);
        Check.due("2: bytes", x.about(8), 48);
    }

    private static void wipe() {
        SpikeTown x = new SpikeTown();
        Check.due("3: wipe of nothing", x.wipe(), 0);
        Check.write(x, "RS0");
        Check.due("3: wipe", x.wipe(), 3);
        Check.due("3: wipe again", x.wipe(), 0);
        Check.due("3: write after it", x.write('R'), 1);
        Check.due("3: fault after it", x.fault(), NONE);
    }

    private static void faults() {
        fault("", 0);
        fault("S", 0);
        fault("r", 0);
        fault("X00", 0);
        fault("RR", 1);
        fault("Rs", 1);
        fault("R0", 1);
        fault("RS", 2);
        fault("RS/", 2);
        fault("RS3", 2);
        fault("RS2", 3);
        fault("RS2/", 3);
        fault("RS28", 3);
        fault("RS2A", 3);
        fault("RS27S07", 6);
        fault("RS27S", 5);
        fault("RS00S11S22S03S14S25S06S17S", 25);
        fault("RS00S11S22S03S14S25S06S17ST", 25);
        fault("RT", 2);
        fault("RT/", 2);
        fault("RT4", 2);
        fault("RT3", 3);
        fault("RT30", 4);
        fault("RT301", 5);
        fault("RT3/", 3);
        fault("RT38", 3);
        fault("RT308", 4);
        fault("RT3008", 5);
        fault("RT3A", 3);
        fault("RT30A", 4);
        fault("RT300A", 5);
        fault("RT3000T0@", 8);
        fault("RT3000T0B", 8);
        fault("RT3000T0AB", 9);
        fault("RT3000T0AAB", 10);
        fault("RT3000T0AAa", 10);
        fault("RT3000T0AA\u00ff", 10);
        fault("RT0000T0000T0000T0000T0000T0EEF", 30);
        fault("RT0000T0000T0000T0000T0000T000FT", 30);
        fault("RT0000T0000T0000T0000T0000T000ET", 31);
        fault("RT0000T0000T0000T0000T0000T000ES1", 33);
    }

    private static void noFaults() {
        fault("R", NONE);
        fault("RS00", NONE);
        fault("RS27", NONE);
        fault("RT0000", NONE);
        fault("RT3777", NONE);
        fault("RT1707S20T2AAAS01T3BA7", NONE);
        fault("RS00S11S22S03S14S25S06S17", NONE);
        fault("RS00S01S02S03S04S05S06S07", NONE);
        fault("RT0000T1A00T20B1T2C00T3DDDT0EEA", NONE);
        fault("RS00S11S22S03S14S25S06S17T0000T0000T0000T0000", NONE);
    }

    /** The length of THE TEXT is set aside: what has no room to be ended is only not at its end. */
    private static void longTexts() {
        String slips = "RS00S11S22S03S14S25S06S17";
        fault(slips + "T0000T0000T0000T0000T00", 48);
        fault(slips + "T0000T0000T0000T0000T0A", 48);
        fault(slips + "T0000T0000T0000T0000T0E", 47);
        fault("RT0000T0000T0000T0000T0000T0000S00S01S02S03S04S0", 48);
        fault("RT0000T0000T0000T0000T0000T0000S00S01S02S03S04T0", 46);
    }

    private static void fault(String text, int want) {
        SpikeTown x = new SpikeTown();
        Check.write(x, text);
        Check.due("4: fault of " + text, x.fault(), want);
        String before = Check.pictureOf(x);
        int town = x.town();
        if (want != NONE) {
            Check.due("5: town of " + text, town, LATE);
            Check.holds("5: a refused town changes nothing", Check.pictureOf(x).equals(before));
        } else {
            Check.holds("5: town of " + text, town >= 0);
        }
    }

    private static void town() {
        SpikeTown x = new SpikeTown();
        Check.write(x, "R");
        Check.due("5: town of R", x.town(), 0);
        Check.write(x, "RS17T0123S05S13T1A00");
        Check.due("5: town", x.town(), 32);
        Check.due("5: slips on spikes", x.about(2), 128 + 32 + 8);
        Check.due("5: others in hand", x.about(3), 255 - 168);
        Check.due("5: bytes", x.about(8), 20);
        Check.due("5: slip 7 is lower", x.slip(7, 1), 0);
        Check.due("5: slip 3 is on it", x.slip(3, 1), 1);
        Check.due("5: their spike", x.slip(3, 0), 1);
        Check.due("5: slip 5's spike", x.slip(5, 0), 0);
        Check.write(x, "RS00S11S22S03S14S25S06S17T0000T0000T0000T0000");
        Check.due("5: town of eight", x.town(), 84);
        Check.write(x, "RT0000T0000T0000T0000T0000T0000");
        Check.due("5: town of six things", x.town(), 6);
    }

    private static void townKeepsAndForgets() {
        SpikeTown x = Check.townOf("RS00S01S02T0012");
        x.night();
        x.take(0);
        x.tear(2);
        x.keep(0);
        x.keep(1);
        x.swear(0, 1);
        x.seed(77);
        Check.due("5: town made anew", x.town(), 31);
        Check.due("5: the night", x.about(1), 0);
        Check.due("5: none gone", x.about(4), 0);
        Check.due("5: acts", x.about(6), 0);
        Check.due("5: undo", x.undo(), LATE);
        Check.due("5: again(0)", x.again(0), LATE);
        Check.due("5: again(1)", x.again(1), LATE);
        Check.due("5: sworn", x.about(7), 1);
        Check.due("5: the seed", x.seed(0), 77);
        Check.due("5: the text", x.about(8), 15);
        x.wipe();
        Check.due("5: what is so without a text", x.about(5), 1);
        x.put(4, 2);
        String before = Check.pictureOf(x);
        Check.due("5: town of no text", x.town(), LATE);
        Check.holds("5: it changes nothing", Check.pictureOf(x).equals(before));
        Check.due("5: acts stay", x.undo(), 0);
    }

    private static void about() {
        SpikeTown x = Check.townOf("RS00S01S02T0012T1300T2300");
        x.swear(1, 0);
        x.night();
        x.tear(7);
        x.put(3, 1);
        Check.due("6: things", x.about(0), 3);
        Check.due("6: the night", x.about(1), 1);
        Check.due("6: on spikes", x.about(2), 8 + 4 + 2);
        Check.due("6: in hand", x.about(3), 16 + 32 + 64);
        Check.due("6: gone", x.about(4), 128 + 1);
        Check.due("6: so", x.about(5), 0);
        Check.due("6: acts", x.about(6), 3);
        Check.due("6: sworn", x.about(7), 1);
        Check.due("6: bytes", x.about(8), 25);
        x.undo();
        x.undo();
        x.undo();
        Check.due("6: so before", x.about(5), 1 + 2 + 4);
        for (int what : FAR) {
            Check.due("6: about(" + what + ")", x.about(what), BAD);
        }
        Check.due("6: about(9)", x.about(9), BAD);
    }

    private static void slip() {
        SpikeTown x = Check.townOf("RS10S11S22");
        x.tear(7);
        int[][] wants = {{1, 0, 0}, {1, 1, 0}, {2, 0, 0}, {NONE, NONE, 1}};
        for (int slip = 0; slip < 4; slip++) {
            for (int what = 0; what < 3; what++) {
                Check.due("7: slip(" + slip + ", " + what + ")", x.slip(slip, what), wants[slip][what]);
            }
        }
        Check.due("7: spike of one gone", x.slip(7, 0), NONE);
        Check.due("7: height of one gone", x.slip(7, 1), NONE);
        Check.due("7: one gone", x.slip(7, 2), 2);
        Check.due("7: one hangs nothing", x.slip(7, 3), 0);
        for (int far : FAR) {
            Check.due("7: slip(" + far + ", 0)", x.slip(far, 0), UNKNOWN);
            Check.due("7: slip(" + far + ", 9)", x.slip(far, 9), UNKNOWN);
            Check.due("7: slip(0, " + far + ")", x.slip(0, far), BAD);
        }
        Check.due("7: slip(8, 4)", x.slip(8, 4), UNKNOWN);
        Check.due("7: slip(7, 4)", x.slip(7, 4), BAD);
    }

    /** Thing 0 wants slips 0, 1, 2; thing 1 is so without slip 0; thing 2 by two of 0, 1, 3; thing 3 by things. */
    private static void hangs() {
        SpikeTown x = Check.townOf("RS00S01T0012T2011T3013T2AC2");
        Check.due("7: so", x.about(5), 4 + 8);
        Check.due("7: hangs of 0", x.slip(0, 3), 2 + 4 + 8);
        Check.due("7: hangs of 1", x.slip(1, 3), 4 + 8);
        Check.due("7: hangs of 2, in hand", x.slip(2, 3), 1 + 8);
        Check.due("7: hangs of 3, in hand", x.slip(3, 3), 0);
        x.tear(2);
        Check.due("7: hangs of 2, gone", x.slip(2, 3), 1 + 8);
        x.take(0);
        Check.due("7: hangs of 3, then", x.slip(3, 3), 4 + 8);
        Check.due("7: on spikes as ever", x.about(2), 1);
    }

    private static void spike() {
        SpikeTown x = Check.townOf("RS14S10S17S23");
        int[][] wants = {{0, NONE, NONE}, {3, 4, 7}, {1, 3, 3}};
        for (int spike = 0; spike < 3; spike++) {
            for (int what = 0; what < 3; what++) {
                Check.due("8: spike(" + spike + ", " + what + ")", x.spike(spike, what), wants[spike][what]);
            }
        }
        for (int far : FAR) {
            Check.due("8: spike(" + far + ", 0)", x.spike(far, 0), UNKNOWN);
            Check.due("8: spike(0, " + far + ")", x.spike(0, far), BAD);
        }
        Check.due("8: spike(3, 3)", x.spike(3, 3), UNKNOWN);
        Check.due("8: spike(2, 3)", x.spike(2, 3), BAD);
        x = Check.townOf("RS07S06S05S04S03S02S01S00");
        Check.due("8: eight on it", x.spike(0, 0), 8);
        Check.due("8: its lowest", x.spike(0, 1), 7);
        Check.due("8: its top", x.spike(0, 2), 0);
        Check.due("8: the next one's top", x.spike(1, 2), NONE);
    }

    private static void thing() {
        SpikeTown x = Check.townOf("RS07T0777T1A07T2BA3T3CBAT0DCBT1EDC");
        int[][] wants = {{0, 7, 7, 7, 1}, {1, 10, 0, 7, 1}, {2, 11, 10, 3, 0}, {3, 12, 11, 10, 1},
            {0, 13, 12, 11, 0}, {1, 14, 13, 12, 0}};
        for (int thing = 0; thing < 6; thing++) {
            for (int what = 0; what < 5; what++) {
                Check.due("9: thing(" + thing + ", " + what + ")", x.thing(thing, what), wants[thing][what]);
            }
            Check.due("9: thing(" + thing + ", 5)", x.thing(thing, 5), BAD);
            Check.due("9: thing(" + thing + ", -1)", x.thing(thing, -1), BAD);
        }
        for (int far : FAR) {
            Check.due("9: thing(" + far + ", 0)", x.thing(far, 0), UNKNOWN);
            Check.due("9: thing(0, " + far + ")", x.thing(0, far), BAD);
        }
        Check.due("9: thing(6, 9)", x.thing(6, 9), UNKNOWN);
        x = Check.townOf("RT0000");
        Check.due("9: thing(1, 0)", x.thing(1, 0), UNKNOWN);
    }

    /** Each kind by all eight ways in which its grounds hold; bit 0 is a, bit 1 is b, bit 2 is c. */
    private static void kinds() {
        int[] soByGrounds = {0b10000000, 0b11100000, 0b01010100, 0b11101000};
        for (int kind = 0; kind < 4; kind++) {
            for (int held = 0; held < 8; held++) {
                SpikeTown x = Check.townOf("RT" + kind + "012");
                for (int slip = 0; slip < 3; slip++) {
                    if ((held >> slip & 1) == 1) {
                        x.put(slip, slip);
                    }
                }
                Check.due("9: kind " + kind + " by " + held, x.thing(0, 4), soByGrounds[kind] >> held & 1);
            }
        }
        SpikeTown x = Check.townOf("RS01T3112T0122");
        Check.due("9: a life's like grounds count each", x.about(5), 1);
    }
}
