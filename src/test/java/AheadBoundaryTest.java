/**
 * Nights to come, wants and breaks, told doings and shares, promises 17 to 22: a test for each sentence of the
 * document that names a boundary case, on both sides of it.
 */
public final class AheadBoundaryTest {
    private static final int BAD = -2, LATE = -3, NONE = -9;

    public static void main(String[] args) {
        nightsToComeAre0To20();
        inNoNightsAllIsAsNow();
        miceStopWhenTwoAreLeft();
        lastsFromOneNightOn();
        lastsForWhatIsSoAlone();
        lastsTillItIsNotSoFirst();
        wantsNothingIfItIsSo();
        wantsNoneIfNoSlipsHelp();
        wantsTheFewest();
        wantsTheLeastOfLikeOnes();
        wantsGoneOnesToo();
        wantsAllEight();
        breaksNothingIfItIsNotSo();
        breaksTheFewest();
        breaksTheLeastOfLikeOnes();
        breaksSlipsOnSpikesAlone();
        breaksAllThatAreThere();
        withoutSlipsNothingIsSo();
        doingsAre1To4();
        rowsAreOf3nFigures();
        theFirstDoingIsTheHighest();
        eachPlaceIsTold();
        eachDoingThatCanBe();
        doingsGoOnFromEachOther();
        nDoingsAreJudgedAndNoMore();
        aDoingThatCanNotBeEndsIt();
        shareOfOneThatIsNotOnASpike();
        sharesFromOneSlipToEight();
        sharesLessThan0();
        sharesInLeastTerms();
        Check.end();
    }

    /** Slips 0 .. many - 1 on spike 1, 0 the lowest, and a thing that is so by one slip alone. */
    private static SpikeTown pileWithThingOf(int many, int slip) {
        StringBuilder text = new StringBuilder("R");
        for (int i = 0; i < many; i++) {
            text.append("S1").append(i);
        }
        return Check.townOf(text.append("T0").append(slip).append(slip).append(slip).toString());
    }

    // ---- 17, 18: nights to come

    private static void nightsToComeAre0To20() {
        SpikeTown x = pileWithThingOf(8, 7);
        Check.due("17: later(-1)", x.later(-1), BAD);
        for (int n = 0; n <= 20; n++) {
            Check.due("17: later(" + n + ")", x.later(n), 1);
        }
        Check.due("17: later(21)", x.later(21), BAD);
        Check.due("17: the night", x.about(1), 0);
    }

    private static void inNoNightsAllIsAsNow() {
        SpikeTown x = pileWithThingOf(3, 0);
        Check.due("17: later(0)", x.later(0), 1);
        Check.due("17: later(1)", x.later(1), 0);
        x.night();
        Check.due("17: later(0) then", x.later(0), 0);
    }

    private static void miceStopWhenTwoAreLeft() {
        for (int slip = 0; slip < 8; slip++) {
            SpikeTown x = pileWithThingOf(8, slip);
            for (int n = 0; n <= 20; n++) {
                boolean stays = slip >= n || slip >= 6;
                Check.due("17: slip " + slip + " of eight, later(" + n + ")", x.later(n), stays ? 1 : 0);
            }
        }
    }

    private static void lastsFromOneNightOn() {
        for (int many = 1; many <= 8; many++) {
            for (int slip = 0; slip < many; slip++) {
                int want = slip <= many - 3 ? slip + 1 : NONE;
                Check.due("18: slip " + slip + " of " + many, pileWithThingOf(many, slip).lasts(0), want);
            }
        }
    }

    private static void lastsForWhatIsSoAlone() {
        Check.due("18: in hand", pileWithThingOf(3, 3).lasts(0), LATE);
        SpikeTown x = pileWithThingOf(3, 0);
        Check.due("18: so", x.lasts(0), 1);
        x.night();
        Check.due("18: not so any more", x.lasts(0), LATE);
    }

    private static void lastsTillItIsNotSoFirst() {
        // so while slip 0 is there, not so in the first night, so again in the second one by slip 1's going
        SpikeTown x = Check.townOf("RS00S01S02S03T0000T2122T1AB3");
        Check.due("17: later(0)", x.later(0) >> 2, 1);
        Check.due("17: later(1)", x.later(1) >> 2, 0);
        Check.due("17: later(2)", x.later(2) >> 2, 1);
        Check.due("18: lasts(2)", x.lasts(2), 1);
    }

    // ---- 19: wants

    private static void wantsNothingIfItIsSo() {
        SpikeTown x = Check.townOf("RS00T1010T0000T0111");
        Check.due("19: so by one of two", x.wants(0), 0);
        Check.due("19: so", x.wants(1), 0);
        Check.due("19: not so", x.wants(2), 2);
        x.take(0);
        Check.due("19: not so then", x.wants(1), 1);
    }

    private static void wantsNoneIfNoSlipsHelp() {
        SpikeTown x = Check.townOf("RS00T2012T2000T0B34T3AB5");
        Check.due("19: a regret by its slip", x.wants(0), NONE);
        Check.due("19: a regret by like grounds", x.wants(1), NONE);
        Check.due("19: what hangs by it", x.wants(2), NONE);
        Check.due("19: a life of two that are never so", x.wants(3), NONE);
        x.take(0);
        Check.due("19: a regret without its slip", x.wants(0), 2);
        Check.due("19: a regret by like grounds", x.wants(1), NONE);
        Check.due("19: a life of one that is never so", x.wants(3), 2 + 32);
    }

    private static void wantsTheFewest() {
        // with slip 3 there, either of two things is enough: one by three slips, one by the last slip
        SpikeTown x = Check.townOf("RS13T0012T0777T3AB3");
        Check.due("19: three less slips are more than one", x.wants(2), 128);
        x.put(0, 0);
        Check.due("19: two less slips are more than one", x.wants(2), 128);
        x.put(1, 0);
        Check.due("19: one less slip is as few", x.wants(2), 4);
    }

    private static void wantsTheLeastOfLikeOnes() {
        Check.due("19: a life", Check.townOf("RT3765").wants(0), 32 + 64);
        Check.due("19: a life with one there", Check.townOf("RS05T3765").wants(0), 64);
        Check.due("19: a double", Check.townOf("RS07T1657").wants(0), 32);
        Check.due("19: a regret", Check.townOf("RT2076").wants(0), 64);
    }

    private static void wantsGoneOnesToo() {
        SpikeTown x = Check.townOf("RT0017");
        x.tear(0);
        x.tear(7);
        Check.due("19: two gone, one in hand", x.wants(0), 1 + 2 + 128);
        x.put(1, 2);
        Check.due("19: two gone, one there", x.wants(0), 1 + 128);
        Check.due("19: none is changed", x.about(4), 1 + 128);
    }

    private static void wantsAllEight() {
        SpikeTown x = Check.townOf("RT0012T0A34T0B56T0C77");
        for (int slip = 0; slip < 8; slip++) {
            Check.due("19: of eight", x.wants(3), 255 - x.about(2));
            x.put(slip, slip % 3);
        }
        Check.due("19: so", x.wants(3), 0);
    }

    // ---- 20: breaks

    private static void breaksNothingIfItIsNotSo() {
        SpikeTown x = Check.townOf("RS00T0000T0111");
        Check.due("20: so", x.breaks(0), 1);
        Check.due("20: not so", x.breaks(1), 0);
        x.take(0);
        Check.due("20: not so then", x.breaks(0), 0);
    }

    private static void breaksTheFewest() {
        SpikeTown x = Check.townOf("RS00S01S17T1017");
        Check.due("20: two less slips are more than one", x.breaks(0), 128);
        x.take(0);
        Check.due("20: one less slip is as few", x.breaks(0), 1);
    }

    private static void breaksTheLeastOfLikeOnes() {
        Check.due("20: a plain one", Check.townOf("RS05S16S27T0765").breaks(0), 32);
        Check.due("20: a life", Check.townOf("RS05S16S27T3765").breaks(0), 32 + 64);
        Check.due("20: a life of two", Check.townOf("RS06S27T3765").breaks(0), 64);
    }

    private static void breaksSlipsOnSpikesAlone() {
        SpikeTown x = Check.townOf("RS01S02T2012");
        Check.due("20: slip 0 in hand is not put", x.breaks(0), 2 + 4);
        x.tear(0);
        Check.due("20: nor when it is gone", x.breaks(0), 2 + 4);
        x.take(0);
        Check.due("20: one there", x.breaks(0), 2);
    }

    private static void breaksAllThatAreThere() {
        // thing 0 is never so; by it the others are so if one of two holds: thing 5 by any of slips 0 .. 5
        SpikeTown x = Check.townOf("RS00S11S22S03S14T2000T2A01T2A23T2ABCT2A45T2ADE");
        x.put(5, 2);
        Check.due("20: any of six", x.breaks(5), 63);
        x.take(0);
        Check.due("20: any of five", x.breaks(5), 63 - 8);
        x.put(6, 0);
        x.put(7, 0);
        Check.due("20: others do nothing to it", x.breaks(5), 63 - 8);
    }

    /** So BREAKS is never NONE: all slips away are always enough. */
    private static void withoutSlipsNothingIsSo() {
        for (int kind = 0; kind < 4; kind++) {
            for (int later = 0; later < 4; later++) {
                SpikeTown x = Check.townOf("RT" + kind + "012T" + later + "A34T" + kind + "BA5T" + later + "5BA");
                Check.due("6: without slips", x.about(5), 0);
                for (int slip = 0; slip < 8; slip++) {
                    x.put(slip, slip % 3);
                    for (int thing = 0; thing < 4; thing++) {
                        Check.holds("20: breaks is told", x.breaks(thing) >= 0);
                    }
                }
            }
        }
    }

    // ---- 21: judged

    /** Slips 0, 1 on spike 0 and 2 on spike 1, 3 .. 6 in hand, 7 gone; thing 0 is so, thing 1 is not. */
    private static SpikeTown toJudge() {
        SpikeTown x = Check.townOf("RS00S01S12T0000T0777");
        x.tear(7);
        return x;
    }

    private static void doingsAre1To4() {
        SpikeTown x = toJudge();
        Check.due("21: judge(0, 0)", x.judge(0, 0), BAD);
        for (int n = 1; n <= 4; n++) {
            Check.due("21: judge(" + n + ", 0)", x.judge(n, 0), NONE);
        }
        Check.due("21: judge(5, 0)", x.judge(5, 0), BAD);
    }

    private static void rowsAreOf3nFigures() {
        SpikeTown x = toJudge();
        long most = 1;
        for (int n = 1; n <= 4; n++) {
            most *= 1000;
            Check.due("21: less than 0", x.judge(n, -1), BAD);
            Check.due("21: 0", x.judge(n, 0), NONE);
            Check.due("21: all figures", x.judge(n, most - 1), 0);
            Check.due("21: a figure more", x.judge(n, most), BAD);
        }
    }

    private static void theFirstDoingIsTheHighest() {
        SpikeTown x = toJudge();
        Check.due("21: put, then taken", x.judge(2, 132202), NONE);
        Check.due("21: taken, then put", x.judge(2, 202132), 0);
        Check.due("21: figures ahead are 0: a night, then put", x.judge(2, 132), NONE);
        Check.due("21: as one doing", x.judge(1, 132), NONE);
        Check.due("21: a night, then what can not be", x.judge(2, 202), 1);
    }

    private static void eachPlaceIsTold() {
        SpikeTown x = toJudge();
        for (int n = 1; n <= 4; n++) {
            long bad = 601;
            for (int place = n - 1; place >= 0; place--) {
                Check.due("21: place " + place + " of " + n, x.judge(n, bad), place);
                bad *= 1000;
            }
        }
        Check.due("21: the first of two", x.judge(4, 601601000L), 1);
    }

    /** All 1000 doings of three figures, each judged alone. */
    private static void eachDoingThatCanBe() {
        for (int doing = 0; doing < 1000; doing++) {
            int want = can(doing / 100, doing / 10 % 10, doing % 10) ? NONE : 0;
            Check.due("21: judge(1, " + doing + ")", toJudge().judge(1, doing), want);
        }
    }

    private static boolean can(int what, int middle, int last) {
        switch (what) {
            case 0: return middle == 0 && last == 0;
            case 1: return middle >= 3 && middle <= 6 && last <= 2;
            case 2: return middle == 0 && last <= 1;
            case 3: return middle == 0 && last >= 3 && last <= 6;
            case 4: return middle == 0 && last == 7;
            case 5: return middle == 0 && last <= 2;
            case 6: return middle == 0 && last == 0;
            default: return false;
        }
    }

    private static void doingsGoOnFromEachOther() {
        SpikeTown x = toJudge();
        Check.due("21: mice want three", x.judge(3, 130000600), 2);
        Check.due("21: two are too few for them", x.judge(2, 600), NONE);
        Check.due("21: what mice had is forged", x.judge(3, 130000400), NONE);
        Check.due("21: what they had not is not", x.judge(3, 130000401), 2);
        Check.due("21: audited, then the other is on top", x.judge(3, 500201301), 2);
        Check.due("21: audited, then the other is on top", x.judge(3, 500201300), 2);
        Check.due("21: audited, taken, torn", x.judge(3, 500200300), NONE);
        Check.due("21: not audited, taken, torn", x.judge(3, 200200300), NONE);
        Check.due("21: not audited, the other one", x.judge(2, 200300), 1);
        Check.due("21: torn, then not in hand", x.judge(2, 303133), 1);
        Check.due("21: forged, then in hand", x.judge(3, 407170601), NONE);
        Check.due("21: not so till then", x.judge(4, 407601170601L), 1);
    }

    /** Thing 0 is so till mice come once, thing 1 till they come twice, thing 2 till they come three times. */
    private static void nDoingsAreJudgedAndNoMore() {
        SpikeTown x = Check.townOf("RS00S01S02S03S04T0000T0111T0222");
        for (int thing = 0; thing < 3; thing++) {
            for (int nights = 0; nights < 4; nights++) {
                int want = nights <= thing ? NONE : nights;
                Check.due("21: so after " + nights + " nights", x.judge(nights + 1, 600 + thing), want);
            }
        }
        Check.due("21: so ahead of the night", x.judge(2, 600000), NONE);
        Check.due("21: so ahead of it, not behind it", x.judge(3, 600000600), 2);
    }

    private static void aDoingThatCanNotBeEndsIt() {
        SpikeTown x = toJudge();
        Check.due("21: the first that can not be", x.judge(2, 601700), 0);
        Check.due("21: not the next one", x.judge(3, 700601), 1);
        Check.due("21: nothing is done", x.about(2), 7);
        Check.due("21: no acts by it", x.about(6), 1);
        Check.due("21: the night", x.about(1), 0);
    }

    // ---- 22: shares

    private static void shareIs(SpikeTown x, int slip, int above, int below) {
        Check.dueFraction("22: share(" + slip + ")", x.share(slip, true), x.share(slip, false), above, below);
    }

    private static void shareOfOneThatIsNotOnASpike() {
        SpikeTown x = Check.townOf("RS00T0000T0777");
        shareIs(x, 0, 1, 1);
        shareIs(x, 7, 0, 1);
        x.tear(7);
        shareIs(x, 7, 0, 1);
        x.forge(7);
        x.put(7, 2);
        shareIs(x, 7, 1, 1);
        x.take(0);
        shareIs(x, 0, 0, 1);
    }

    private static void sharesFromOneSlipToEight() {
        // a thing of three slips, and one of all eight; slips come to a spike one by one
        SpikeTown x = Check.townOf("RT0012T0A34T0B56T0C77");
        for (int slip = 0; slip < 7; slip++) {
            x.put(slip, slip % 3);
        }
        shareIs(x, 6, 1, 7);
        x.put(7, 0);
        shareIs(x, 7, 1, 8);
        shareIs(x, 6, 15, 56);
        x = Check.townOf("RS00T1777");
        shareIs(x, 0, 0, 1);
        x = Check.townOf("RS00S01T0011");
        shareIs(x, 0, 1, 2);
        x = Check.townOf("RS00S01S02T0012");
        shareIs(x, 0, 1, 3);
        x = Check.townOf("RS00S01S02T3012");
        shareIs(x, 2, 1, 3);
        x = Check.townOf("RS00S01S02T1012");
        shareIs(x, 0, 1, 6);
        shareIs(x, 2, 2, 3);
    }

    private static void sharesLessThan0() {
        SpikeTown x = Check.townOf("RS00S01T2011");
        shareIs(x, 0, -1, 2);
        shareIs(x, 1, 1, 2);
        x = Check.townOf("RS00S01S12T2012");
        shareIs(x, 0, -2, 3);
        shareIs(x, 1, 1, 3);
        x = Check.townOf("RS00S01T2011T0000");
        shareIs(x, 0, 1, 2);
        x = Check.townOf("RS00S01T2011T2100");
        shareIs(x, 0, 0, 1);
    }

    private static void sharesInLeastTerms() {
        shareIs(Check.townOf("RS00T0000T0000T0000T0000T0000T0000"), 0, 6, 1);
        shareIs(Check.townOf("RS00S01T2011T2011T2011T2011T2011T2011"), 0, -3, 1);
        shareIs(Check.townOf("RS00S01T2011T2011T2011T2011T2011T2011"), 1, 3, 1);
        shareIs(Check.townOf("RS00S01T2011T2011T2011"), 0, -3, 2);
        shareIs(Check.townOf("RS00S01S02S03S04S05S06S07T0000"), 0, 1, 1);
        shareIs(Check.townOf("RS00S01S02S03S04S05S06S07T0011"), 0, 1, 2);
        shareIs(Check.townOf("RS00S01S02S03S04S05S06S07"), 0, 0, 1);
    }
}
