/** Promises 17 to 22: nights to come, wants and breaks, told doings, shares. Nothing is changed by them. */
public final class AheadTest {
    private static final int UNKNOWN = -1, BAD = -2, LATE = -3, NONE = -9;
    private static final int[] FAR = {Integer.MIN_VALUE, -1, 6, Integer.MAX_VALUE};

    public static void main(String[] args) {
        later();
        lasts();
        wants();
        breaks();
        judgeOneDoing();
        judgeMany();
        judgeBad();
        share();
        shareOfEight();
        nothingIsChanged();
        Check.end();
    }

    /** Slips 0, 1, 2, 3 are lost one a night from spike 0 till two are left. */
    private static void later() {
        SpikeTown x = Check.townOf("RS00S01S02S03T0001T0112T0223T2022T0333");
        int[] wants = {1 + 2 + 4 + 16, 2 + 4 + 8 + 16, 4 + 8 + 16, 4 + 8 + 16};
        for (int n = 0; n < 4; n++) {
            Check.due("17: later(" + n + ")", x.later(n), wants[n]);
        }
        Check.due("17: later(20)", x.later(20), 4 + 8 + 16);
        for (int n : new int[] {-1, 21, Integer.MIN_VALUE, Integer.MAX_VALUE}) {
            Check.due("17: later(" + n + ")", x.later(n), BAD);
        }
        x.audit(0);
        Check.due("17: later(1) when audited", x.later(1), 1 + 2);
        Check.due("17: nothing changes", x.about(2), 15);
    }

    private static void lasts() {
        SpikeTown x = Check.townOf("RS00S01S02S03S04S05S06S07T0000T0555T0666T2766");
        Check.due("18: lasts(0)", x.lasts(0), 1);
        Check.due("18: lasts(1)", x.lasts(1), 6);
        Check.due("18: lasts(2)", x.lasts(2), NONE);
        Check.due("18: lasts(3), not so", x.lasts(3), LATE);
        Check.due("18: lasts(4)", x.lasts(4), UNKNOWN);
        for (int far : FAR) {
            Check.due("18: lasts(" + far + ")", x.lasts(far), UNKNOWN);
        }
        x = Check.townOf("RS00S01S02S13S14S15T2344T2055T1034");
        Check.due("18: what is so but later", x.lasts(0), LATE);
        Check.due("18: what two spikes' mice end", x.lasts(2), 1);
        Check.due("17: what mice make so", x.later(1), 1 + 2);
        x = Check.townOf("RS00S01S02T0000T2A11T2B11");
        Check.due("18: till another is so", x.lasts(2), 1);
        // thing 2 is so by slip 0 at first, and again when slip 1 is gone as well
        x = Check.townOf("RS00S01S02S03T0000T2122T1AB3");
        Check.due("17: later(1)", x.later(1), 0);
        Check.due("17: later(2)", x.later(2), 2 + 4);
        Check.due("18: the first night counts", x.lasts(2), 1);
        Check.due("18: nothing changes", x.about(1), 0);
    }

    private static void wants() {
        SpikeTown x = Check.townOf("RS00T0012T1121T3567T2011T2000T1A23");
        Check.due("19: a plain one wants all", x.wants(0), 2 + 4);
        Check.due("19: a double wants one of two that is the other, too", x.wants(1), 2);
        Check.due("19: a life wants the least two", x.wants(2), 32 + 64);
        Check.due("19: a regret with its slip there", x.wants(3), NONE);
        Check.due("19: a regret by like grounds", x.wants(4), NONE);
        Check.due("19: a double of a thing", x.wants(5), 4 + 8);
        Check.due("19: wants of one that is so", Check.townOf("RS03T1303").wants(0), 0);
        x.take(0);
        Check.due("19: a plain one then", x.wants(0), 1 + 2 + 4);
        Check.due("19: a regret then", x.wants(3), 2);
        for (int slip = 1; slip < 3; slip++) {
            x.tear(slip);
        }
        Check.due("19: gone ones, too", x.wants(0), 1 + 2 + 4);
        x = Check.townOf("RT0012T0677T1AB3T1A55T2A77");
        Check.due("19: three slips rather than four less ones", x.wants(2), 8 + 64 + 128);
        Check.due("19: one slip for both", x.wants(3), 32);
        Check.due("19: one that is so without another", x.wants(4), 128);
        for (int far : FAR) {
            Check.due("19: wants(" + far + ")", x.wants(far), UNKNOWN);
        }
        Check.due("19: wants(5)", x.wants(5), UNKNOWN);
        x = Check.townOf("RT0012T0A34T0B56T0C77");
        Check.due("19: all eight", x.wants(3), 255);
        x.tear(0);
        x.put(7, 1);
        Check.due("19: seven of eight", x.wants(3), 127);
    }

    private static void breaks() {
        SpikeTown x = Check.townOf("RS05S13S21S02T0531T1351T3123T2750T3ABC");
        Check.due("20: so", x.about(5), 1 + 2 + 4 + 8 + 16);
        Check.due("20: a plain one", x.breaks(0), 2);
        Check.due("20: a double", x.breaks(1), 2);
        Check.due("20: a life", x.breaks(2), 2 + 4);
        Check.due("20: a regret", x.breaks(3), 32);
        Check.due("20: a life of things", x.breaks(4), 2);
        x.take(0);
        Check.due("20: a life of two", x.breaks(2), 2);
        x.take(2);
        Check.due("20: one that is not so", x.breaks(0), 0);
        for (int far : FAR) {
            Check.due("20: breaks(" + far + ")", x.breaks(far), UNKNOWN);
        }
        Check.due("20: breaks(5)", x.breaks(5), UNKNOWN);
        x = Check.townOf("RS00S01S02S03S04S05T1010T1232T1454T1ABC");
        Check.due("20: one slip rather than two less ones", x.breaks(3), 16);
    }

    private static void judgeOneDoing() {
        SpikeTown x = Check.townOf("RS10S11T0000T0222");
        x.tear(7);
        int[] done = {0, 120, 121, 122, 160, 201, 302, 306, 407, 500, 501, 502, 600};
        for (int doing = 0; doing < 1000; doing++) {
            boolean can = false;
            for (int other : done) {
                can |= other == doing;
            }
            boolean alike = doing >= 120 && doing <= 162 && doing % 10 < 3 || doing >= 302 && doing <= 306;
            Check.due("21: judge(1, " + doing + ")", x.judge(1, doing), can || alike ? NONE : 0);
        }
    }

    private static void judgeMany() {
        SpikeTown x = Check.townOf("RS10S11T0022T2000");
        Check.due("21: put, then so", x.judge(2, 120600), NONE);
        Check.due("21: put, then so, then not so", x.judge(3, 120600601), 2);
        Check.due("21: mice have slip 0", x.judge(3, 121000600), 2);
        Check.due("21: mice, forged, put, so", x.judge(4, 121000400100L), NONE);
        Check.due("21: two are too few for mice", x.judge(2, 400), 1);
        Check.due("21: taken, torn, forged, put on", x.judge(4, 201301401110L), NONE);
        Check.due("21: taken twice", x.judge(3, 201201201), 2);
        Check.due("21: audited, then the other is on top", x.judge(3, 501201300), NONE);
        Check.due("21: audited, then not it", x.judge(3, 501201301), 2);
        Check.due("21: an audit of nothing", x.judge(2, 500502), NONE);
        Check.due("21: four nights", x.judge(4, 0), NONE);
        Check.due("21: the first fault", x.judge(4, 700800900999L), 0);
        Check.due("21: the last fault", x.judge(4, 999), 3);
        Check.due("21: nothing changes", x.about(2), 3);
    }

    private static void judgeBad() {
        SpikeTown x = new SpikeTown();
        for (int n : new int[] {0, -1, 5, Integer.MIN_VALUE, Integer.MAX_VALUE}) {
            Check.due("21: judge(" + n + ", 0)", x.judge(n, 0), BAD);
        }
        long limit = 1;
        for (int n = 1; n <= 4; n++) {
            limit *= 1000;
            Check.due("21: judge of as many figures", x.judge(n, limit - 1), 0);
            Check.due("21: judge of a figure more", x.judge(n, limit), BAD);
            Check.due("21: judge of the most", x.judge(n, Long.MAX_VALUE), BAD);
            Check.due("21: judge of less than 0", x.judge(n, -1), BAD);
            Check.due("21: judge of the least", x.judge(n, Long.MIN_VALUE), BAD);
        }
    }

    private static void share() {
        SpikeTown x = Check.townOf("RS00S01S02T0012T1012");
        shareIs(x, 0, 1, 2);
        shareIs(x, 1, 1, 2);
        shareIs(x, 2, 1, 1);
        shareIs(x, 3, 0, 1);
        // a regret's slip takes more than it brings
        x = Check.townOf("RS00S01T2011");
        shareIs(x, 0, -1, 2);
        shareIs(x, 1, 1, 2);
        x.take(0);
        shareIs(x, 0, 0, 1);
        shareIs(x, 1, 0, 1);
        x = Check.townOf("R");
        shareIs(x, 7, 0, 1);
        for (int slip : new int[] {Integer.MIN_VALUE, -1, 8, Integer.MAX_VALUE}) {
            Check.due("22: share(" + slip + ")", x.share(slip, true), UNKNOWN);
            Check.due("22: share(" + slip + ")", x.share(slip, false), UNKNOWN);
        }
    }

    private static void shareOfEight() {
        SpikeTown x = Check.townOf("RS00S11S22S03S14S25S06S17T1345");
        shareIs(x, 3, 1, 6);
        shareIs(x, 4, 1, 6);
        shareIs(x, 5, 2, 3);
        shareIs(x, 0, 0, 1);
        // things of 3, 5, 7 and 8 slips
        x = Check.townOf("RS00S11S22S03S14S25S06S17T0012T0A34T0B56T0C77");
        shareIs(x, 0, 673, 840);
        shareIs(x, 6, 15, 56);
        shareIs(x, 7, 1, 8);
    }

    private static void shareIs(SpikeTown x, int slip, int above, int below) {
        Check.dueFraction("22: share(" + slip + ")", x.share(slip, true), x.share(slip, false), above, below);
    }

    private static void nothingIsChanged() {
        SpikeTown x = Check.townOf("RS00S01S02S13S14T0012T1345T2567T3ABCT0D33");
        x.tear(7);
        x.night();
        String before = Check.pictureOf(x);
        x.later(20);
        x.lasts(0);
        for (int thing = 0; thing < 5; thing++) {
            x.lasts(thing);
            x.wants(thing);
            x.breaks(thing);
            x.share(thing, true);
        }
        x.judge(4, 150201500000L);
        Check.holds("17 to 22: nothing is changed", Check.pictureOf(x).equals(before));
        Check.due("17 to 22: acts are as they were", x.undo(), 1);
    }
}
