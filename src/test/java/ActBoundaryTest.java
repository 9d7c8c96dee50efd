/**
 * Slips, spikes, things, acts and slots, promises 7 to 16, 30 and 31: a test for each sentence of the document
 * that names a boundary case, on both sides of it.
 */
public final class ActBoundaryTest {
    private static final int UNKNOWN = -1, LATE = -3, NONE = -9;
    private static final int SPIKE = 0, HAND = 1, GONE = 2;

    public static void main(String[] args) {
        aSlipIsOnASpikeInHandOrGone();
        heightsAre0To7();
        aGroundHoldsOnAnySpike();
        aGroundInHandOrGoneHoldsNot();
        kindsByHowManyHold();
        thingsHangByThings();
        hangsJustWithOrJustWithout();
        theLowestAndTheTopOfASpike();
        spikedFromHandAlone();
        takenIsTheTopOne();
        tornFromHandAlone();
        forgedFromGoneAlone();
        allTornAllForged();
        miceWantThreeOrMore();
        miceOfEachSpike();
        theNightIsOneMore();
        auditedTurnsAllOver();
        actsAre14AtMost();
        theFirstActIsForgotten();
        actsByWhichNothingBecomesAnother();
        eachActCanBeUndone();
        undoneTillThereIsNone();
        slotsAre0And1();
        slotsKeepWhereSlipsAre();
        noActsWhenOneGoesOn();
        usedForAllOf512Calls();
        Check.end();
    }

    /** Slips 0 .. many - 1 on one spike, 0 the lowest. */
    private static SpikeTown pile(int many, int spike) {
        SpikeTown x = new SpikeTown();
        for (int slip = 0; slip < many; slip++) {
            x.put(slip, spike);
        }
        return x;
    }

    private static void placeIs(SpikeTown x, int slip, int state, int spike, int height) {
        Check.due("7: where slip " + slip + " is", x.slip(slip, 2), state);
        Check.due("7: spike of slip " + slip, x.slip(slip, 0), spike);
        Check.due("7: height of slip " + slip, x.slip(slip, 1), height);
    }

    // ---- 7: slips

    private static void aSlipIsOnASpikeInHandOrGone() {
        for (int slip : new int[] {0, 7}) {
            for (int spike : new int[] {0, 2}) {
                SpikeTown x = new SpikeTown();
                placeIs(x, slip, HAND, NONE, NONE);
                x.put(slip, spike);
                placeIs(x, slip, SPIKE, spike, 0);
                Check.due("6: on spikes", x.about(2), 1 << slip);
                Check.due("6: in hand", x.about(3), 255 - (1 << slip));
                x.take(spike);
                placeIs(x, slip, HAND, NONE, NONE);
                Check.due("6: on spikes", x.about(2), 0);
                x.tear(slip);
                placeIs(x, slip, GONE, NONE, NONE);
                Check.due("6: gone", x.about(4), 1 << slip);
                Check.due("6: in hand", x.about(3), 255 - (1 << slip));
                x.forge(slip);
                placeIs(x, slip, HAND, NONE, NONE);
                Check.due("6: gone", x.about(4), 0);
            }
        }
    }

    private static void heightsAre0To7() {
        for (int spike = 0; spike < 3; spike++) {
            SpikeTown x = new SpikeTown();
            for (int height = 0; height < 8; height++) {
                Check.due("10: height", x.put(7 - height, spike), height);
            }
            for (int slip = 0; slip < 8; slip++) {
                placeIs(x, slip, SPIKE, spike, 7 - slip);
            }
        }
    }

    // ---- what holds, what is so

    private static void aGroundHoldsOnAnySpike() {
        for (int slip = 0; slip < 8; slip++) {
            for (int spike = 0; spike < 3; spike++) {
                SpikeTown x = Check.townOf("RT0" + slip + slip + slip);
                x.put(slip, spike);
                Check.due("9: slip " + slip + " on spike " + spike, x.thing(0, 4), 1);
            }
        }
    }

    private static void aGroundInHandOrGoneHoldsNot() {
        for (int slip = 0; slip < 8; slip++) {
            SpikeTown x = Check.townOf("RT0" + slip + slip + slip);
            Check.due("9: slip " + slip + " in hand", x.thing(0, 4), 0);
            x.tear(slip);
            Check.due("9: slip " + slip + " gone", x.thing(0, 4), 0);
            x.forge(slip);
            Check.due("9: slip " + slip + " forged", x.thing(0, 4), 0);
        }
    }

    private static void kindsByHowManyHold() {
        // whether it is so, by a, b, c as figures: 000, 001, .. 111
        String plain = "00000001";
        String either = "00010101";
        String regret = "01110000";
        String life = "00010111";
        String[] soBy = {plain, either, regret, life};
        for (int kind = 0; kind < 4; kind++) {
            for (int i = 0; i < 8; i++) {
                SpikeTown x = Check.townOf("RT" + kind + "012");
                for (int slip = 0; slip < 3; slip++) {
                    if ((i >> 2 - slip & 1) == 1) {
                        x.put(slip, 0);
                    }
                }
                Check.due("9: kind " + kind + ", held " + i, x.thing(0, 4), soBy[kind].charAt(i) - '0');
            }
        }
    }

    private static void thingsHangByThings() {
        SpikeTown x = Check.townOf("RT0000T0AAAT0BBBT0CCCT0DDDT0EEE");
        Check.due("6: none is so", x.about(5), 0);
        Check.due("7: all hang by slip 0", x.slip(0, 3), 63);
        x.put(0, 2);
        Check.due("6: all are so", x.about(5), 63);
        Check.due("7: all hang by slip 0", x.slip(0, 3), 63);
        Check.due("7: none hangs by slip 7", x.slip(7, 3), 0);
    }

    private static void hangsJustWithOrJustWithout() {
        SpikeTown x = Check.townOf("RS11T0111T2011T1000T2122T0000");
        // thing 0: by slip 1; 1: by slip 1, not by 0; 2: by slip 0; 3: by 2, not by 1; 4: as 2
        Check.due("7: of one on a spike", x.slip(1, 3), 1 + 2);
        Check.due("7: of one in hand", x.slip(0, 3), 2 + 4 + 16);
        Check.due("7: of one in hand that changes nothing", x.slip(2, 3), 0);
        x.tear(0);
        Check.due("7: of one gone", x.slip(0, 3), 2 + 4 + 16);
        x.put(2, 1);
        Check.due("7: just without it", x.slip(1, 3), 1 + 2 + 8);
        Check.due("6: nothing is changed", x.about(2), 2 + 4);
    }

    // ---- 8: spikes

    private static void theLowestAndTheTopOfASpike() {
        for (int spike = 0; spike < 3; spike++) {
            for (int many = 0; many <= 8; many++) {
                SpikeTown x = pile(many, spike);
                for (int other = 0; other < 3; other++) {
                    boolean here = other == spike && many > 0;
                    Check.due("8: how many", x.spike(other, 0), here ? many : 0);
                    Check.due("8: the lowest", x.spike(other, 1), here ? 0 : NONE);
                    Check.due("8: the top", x.spike(other, 2), here ? many - 1 : NONE);
                }
            }
        }
    }

    // ---- 10 to 13: spiked, taken, torn, forged

    private static void spikedFromHandAlone() {
        SpikeTown x = pile(2, 0);
        x.tear(2);
        for (int spike = 0; spike < 3; spike++) {
            Check.due("10: the lower one", x.put(0, spike), LATE);
            Check.due("10: the top one", x.put(1, spike), LATE);
            Check.due("10: one gone", x.put(2, spike), LATE);
        }
        Check.due("10: one in hand", x.put(3, 0), 2);
        x.forge(2);
        Check.due("10: one forged", x.put(2, 0), 3);
        x.take(0);
        Check.due("10: one taken", x.put(2, 1), 0);
    }

    private static void takenIsTheTopOne() {
        for (int spike = 0; spike < 3; spike++) {
            SpikeTown x = pile(8, spike);
            for (int slip = 7; slip >= 0; slip--) {
                Check.due("11: take beside it", x.take((spike + 1) % 3), LATE);
                Check.due("11: take", x.take(spike), slip);
                placeIs(x, slip, HAND, NONE, NONE);
            }
            Check.due("11: take of none", x.take(spike), LATE);
        }
    }

    private static void tornFromHandAlone() {
        SpikeTown x = pile(1, 2);
        Check.due("12: one on a spike", x.tear(0), LATE);
        Check.due("12: one in hand", x.tear(1), 1);
        Check.due("12: one gone", x.tear(1), LATE);
        x.take(2);
        Check.due("12: one taken", x.tear(0), 2);
    }

    private static void forgedFromGoneAlone() {
        SpikeTown x = pile(3, 1);
        Check.due("13: one on a spike", x.forge(0), LATE);
        Check.due("13: one in hand", x.forge(7), LATE);
        x.night();
        Check.due("13: one that mice had", x.forge(0), 0);
        Check.due("13: one in hand then", x.forge(0), LATE);
        x.tear(7);
        Check.due("13: one torn", x.forge(7), 0);
    }

    private static void allTornAllForged() {
        SpikeTown x = new SpikeTown();
        for (int slip = 0; slip < 8; slip++) {
            Check.due("12: gone", x.tear(slip), slip + 1);
        }
        Check.due("6: all gone", x.about(4), 255);
        Check.due("6: none in hand", x.about(3), 0);
        for (int slip = 0; slip < 8; slip++) {
            Check.due("13: gone", x.forge(slip), 7 - slip);
        }
        Check.due("6: none gone", x.about(4), 0);
        Check.due("6: all in hand", x.about(3), 255);
    }

    // ---- 14, 15: mice, audits

    private static void miceWantThreeOrMore() {
        for (int spike = 0; spike < 3; spike++) {
            for (int many = 0; many <= 8; many++) {
                SpikeTown x = pile(many, spike);
                int eaten = many < 3 ? 0 : 1;
                Check.due("14: mice of " + many, x.night(), eaten);
                Check.due("14: left", x.spike(spike, 0), many - eaten);
                Check.due("14: gone is the lowest", x.about(4), eaten);
                for (int slip = eaten; slip < many; slip++) {
                    placeIs(x, slip, SPIKE, spike, slip - eaten);
                }
            }
        }
    }

    private static void miceOfEachSpike() {
        miceOf("RS00S01S12S13S24S25", 0, 0, 0);
        miceOf("RS00S01S12S13S24S25S26", 1, 16, 0);
        miceOf("RS00S01S12S13S14S25S26S27", 2, 4 + 32, 0);
        miceOf("RS10S01S12S03S14S05S26S27", 2, 1 + 2, 0);
        miceOf("RS00S01S02S03S14S15S26S27", 1, 1, 1);
    }

    /** The next night's answer is how many are gone by it, not all that are. */
    private static void miceOf(String text, int eaten, int gone, int eatenNext) {
        SpikeTown x = Check.townOf(text);
        Check.due("14: mice of " + text, x.night(), eaten);
        Check.due("14: gone", x.about(4), gone);
        Check.due("14: mice once more", x.night(), eatenNext);
    }

    private static void theNightIsOneMore() {
        SpikeTown x = new SpikeTown();
        for (int night = 1; night <= 400; night++) {
            x.night();
        }
        Check.due("14: the night", x.about(1), 400);
        Check.due("30: keep tells it", x.keep(1), 400);
        x.undo();
        Check.due("16: one less", x.about(1), 399);
        Check.due("31: again tells it", x.again(1), 400);
        Check.due("31: the night", x.about(1), 400);
        x.put(0, 0);
        x.undo();
        Check.due("16: other acts leave it", x.about(1), 400);
    }

    private static void auditedTurnsAllOver() {
        for (int spike = 0; spike < 3; spike++) {
            for (int many = 0; many <= 8; many++) {
                SpikeTown x = pile(many, spike);
                if (many < 8) {
                    x.put(7, (spike + 1) % 3);
                }
                Check.due("15: audit of " + many, x.audit(spike), many == 0 ? NONE : 0);
                for (int slip = 0; slip < many; slip++) {
                    placeIs(x, slip, SPIKE, spike, many - 1 - slip);
                }
                if (many < 8) {
                    placeIs(x, 7, SPIKE, (spike + 1) % 3, 0);
                }
                Check.due("15: audit again", x.audit(spike), many == 0 ? NONE : many - 1);
            }
        }
    }

    // ---- 16: acts

    private static void actsAre14AtMost() {
        SpikeTown x = new SpikeTown();
        for (int i = 1; i <= 40; i++) {
            x.night();
            Check.due("6: acts after " + i, x.about(6), Math.min(i, 14));
        }
        for (int left = 13; left >= 0; left--) {
            Check.due("16: undo", x.undo(), left);
        }
        Check.due("16: undo", x.undo(), LATE);
        Check.due("16: what was forgotten stays done", x.about(1), 26);
    }

    private static void theFirstActIsForgotten() {
        for (int acts = 13; acts <= 16; acts++) {
            SpikeTown x = new SpikeTown();
            for (int i = 0; i < acts; i++) {
                if (i % 2 == 0) {
                    x.tear(i / 2);
                } else {
                    x.night();
                }
            }
            while (x.about(6) > 0) {
                x.undo();
            }
            // the first act tore slip 0, the second one was a night
            Check.due("16: undone of " + acts, x.about(4), acts > 14 ? 1 : 0);
            Check.due("16: undone of " + acts, x.about(1), acts > 15 ? 1 : 0);
            Check.due("16: no more of " + acts, x.undo(), LATE);
        }
    }

    private static void actsByWhichNothingBecomesAnother() {
        SpikeTown x = pile(1, 1);
        Check.due("6: acts", x.about(6), 1);
        x.audit(0);
        Check.due("6: an audit of none is an act", x.about(6), 2);
        x.audit(1);
        Check.due("6: an audit of one is an act", x.about(6), 3);
        x.night();
        Check.due("6: a night without mice is an act", x.about(6), 4);
        Check.due("16: undo", x.undo(), 3);
        Check.due("16: undo", x.undo(), 2);
        Check.due("16: undo", x.undo(), 1);
        placeIs(x, 0, SPIKE, 1, 0);
        x.undo();
        placeIs(x, 0, HAND, NONE, NONE);
    }

    private static void eachActCanBeUndone() {
        SpikeTown x = pile(3, 0);
        x.tear(7);
        String before = Check.pictureOf(x);
        for (int act = 0; act < 6; act++) {
            switch (act) {
                case 0: x.put(6, 0); break;
                case 1: x.take(0); break;
                case 2: x.tear(6); break;
                case 3: x.forge(7); break;
                case 4: x.night(); break;
                default: x.audit(0); break;
            }
            Check.holds("16: act " + act + " is done", !Check.pictureOf(x).equals(before));
            Check.due("16: undo", x.undo(), 4);
            Check.dueText("16: act " + act + " undone", Check.pictureOf(x), before);
        }
    }

    private static void undoneTillThereIsNone() {
        SpikeTown x = new SpikeTown();
        Check.due("16: none at first", x.undo(), LATE);
        x.put(0, 0);
        Check.due("16: the only one", x.undo(), 0);
        Check.due("16: none left", x.undo(), LATE);
        x.put(0, 0);
        x.put(0, 1);
        x.take(1);
        Check.due("16: what was refused is no act", x.undo(), 0);
        x.put(1, 1);
        Check.due("6: acts go on", x.about(6), 1);
    }

    // ---- 30, 31: slots

    private static void slotsAre0And1() {
        for (int slot = 0; slot < 2; slot++) {
            SpikeTown x = new SpikeTown();
            Check.due("31: none was kept", x.again(slot), LATE);
            Check.due("30: keep", x.keep(slot), 0);
            Check.due("31: again", x.again(slot), 0);
            Check.due("31: of the other none was kept", x.again(1 - slot), LATE);
            Check.due("30: keep(2)", x.keep(2), UNKNOWN);
            Check.due("30: keep(-1)", x.keep(-1), UNKNOWN);
            Check.due("31: again(2)", x.again(2), UNKNOWN);
            Check.due("31: again(-1)", x.again(-1), UNKNOWN);
        }
    }

    private static void slotsKeepWhereSlipsAre() {
        SpikeTown x = pile(8, 2);
        x.night();
        x.night();
        x.take(2);
        String kept = placesOf(x);
        x.keep(0);
        x.take(2);
        x.keep(1);
        x.night();
        x.audit(2);
        x.forge(0);
        Check.due("31: again(0)", x.again(0), 2);
        Check.dueText("31: as they were kept", placesOf(x), kept);
        x.tear(7);
        Check.due("31: again(0)", x.again(0), 2);
        Check.dueText("31: as they were kept, once more", placesOf(x), kept);
        Check.due("31: again(1)", x.again(1), 2);
        Check.due("31: on spikes", x.about(2), 4 + 8 + 16 + 32);
        x.keep(0);
        x.take(2);
        x.again(0);
        Check.due("30: what is kept later is kept", x.about(2), 4 + 8 + 16 + 32);
    }

    private static String placesOf(SpikeTown x) {
        StringBuilder places = new StringBuilder();
        for (int slip = 0; slip < 8; slip++) {
            places.append(x.slip(slip, 0)).append('/').append(x.slip(slip, 1)).append('/').append(x.slip(slip, 2));
        }
        return places.append(" night ").append(x.about(1)).toString();
    }

    private static void noActsWhenOneGoesOn() {
        SpikeTown x = pile(3, 0);
        x.keep(0);
        Check.due("30: acts stay", x.about(6), 3);
        x.again(1);
        Check.due("31: acts stay when it is refused", x.about(6), 3);
        x.again(2);
        Check.due("31: acts stay when it is refused", x.about(6), 3);
        x.again(0);
        Check.due("31: no acts", x.about(6), 0);
        Check.due("31: nothing to undo", x.undo(), LATE);
        x.night();
        Check.due("6: acts go on", x.about(6), 1);
        Check.due("16: undo", x.undo(), 0);
        Check.due("6: till where one went on", x.about(2), 7);
    }

    // ---- 512 calls

    private static void usedForAllOf512Calls() {
        SpikeTown x = new SpikeTown();
        for (int call = 1; call <= 510; call++) {
            x.night();
        }
        Check.due("the 511th call", x.about(1), 510);
        Check.due("the 512th call", x.undo(), 13);
    }
}
