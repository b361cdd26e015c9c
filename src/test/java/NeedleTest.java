/** Promises 23 to 28: men, meetings, sickness, who may have had it from whom, who must have. */
public final class NeedleTest {
    private static final Due DUE = new Due();

    public static void main(String[] args) {
        men();
        meetings();
        sickness();
        ownDays();
        giversDays();
        whoGave();
        paths();
        rings();
        longPath();
        refusals();
        DUE.end();
    }

    private static CopiedSkins withMen(int men) {
        CopiedSkins x = new CopiedSkins();
        for (int m = 0; m < men; m++) {
            x.man();
        }
        return x;
    }

    private static void men() {
        CopiedSkins x = new CopiedSkins();
        for (int m = 0; m < 8; m++) {
            DUE.is("man", x.man(), m);
        }
        DUE.is("man full", x.man(), CopiedSkins.FULL);
        DUE.is("eight men", x.told(3), 8);
    }

    private static void meetings() {
        CopiedSkins x = withMen(2);
        DUE.is("meet of no man", x.meet(2, 5), CopiedSkins.UNKNOWN);
        DUE.is("meet of man -1", x.meet(-1, 5), CopiedSkins.UNKNOWN);
        DUE.is("meet, unknown goes ahead", x.meet(2, 100), CopiedSkins.UNKNOWN);
        DUE.is("meet on day 100", x.meet(0, 100), CopiedSkins.OUTSIDE);
        DUE.is("meet on day -1", x.meet(0, -1), CopiedSkins.OUTSIDE);
        DUE.is("meet on day 0", x.meet(0, 0), 0);
        DUE.is("meet on day 50", x.meet(1, 50), 1);
        DUE.is("meet ahead of the last one", x.meet(0, 49), CopiedSkins.OUTSIDE);
        DUE.is("meet on the same day", x.meet(0, 50), 2);
        for (int k = 3; k < 16; k++) {
            DUE.is("meet", x.meet(1, 99), k);
        }
        DUE.is("meet full", x.meet(1, 99), CopiedSkins.FULL);
        DUE.is("outside goes ahead of full", x.meet(1, 98), CopiedSkins.OUTSIDE);
        DUE.is("sixteen meetings", x.told(4), 16);
    }

    private static void sickness() {
        CopiedSkins x = withMen(2);
        DUE.is("sick of no man", x.sick(2, 5), CopiedSkins.UNKNOWN);
        DUE.is("sick, unknown goes ahead", x.sick(2, 100), CopiedSkins.UNKNOWN);
        DUE.is("sick on day 100", x.sick(0, 100), CopiedSkins.OUTSIDE);
        DUE.is("sick on day -2", x.sick(0, -2), CopiedSkins.OUTSIDE);
        DUE.is("nobody is sick", x.firsts(1), 0);
        DUE.is("sick on day 0", x.sick(0, 0), CopiedSkins.NONE);
        DUE.is("sick on day 99", x.sick(1, 99), CopiedSkins.NONE);
        DUE.is("both are sick", x.firsts(1), 3);
        DUE.is("sick was on day 0", x.sick(0, 7), 0);
        DUE.is("sick no more", x.sick(0, -1), 7);
        DUE.is("one is sick", x.firsts(1), 2);
        DUE.is("was not sick", x.sick(0, -1), CopiedSkins.NONE);
    }

    /** His own meeting is 1 to WAIT days ahead of his sickness. */
    private static void ownDays() {
        CopiedSkins x = withMen(2);
        x.meet(0, 40);
        x.meet(1, 40);
        x.sick(0, 41);
        int[] days = {39, 40, 41, 50, 51};
        int[] want = {0, 0, 1, 1, 0};
        for (int i = 0; i < days.length; i++) {
            x.sick(1, days[i]);
            DUE.is("from, sick on day " + days[i], x.from(1), want[i]);
            DUE.is("the other has it from nobody", x.from(0), 0);
        }
        x.sick(1, 41);
        x.set(2, 1);
        DUE.is("from, WAIT 1", x.from(1), 1);
        x.sick(1, 42);
        DUE.is("from, WAIT 1, a day more", x.from(1), 0);
        x.sick(1, -1);
        DUE.is("from, not sick", x.from(1), 0);
    }

    /** The giver had it 1 to WAIT days ahead of his sickness, and gives it for OPEN days from then on. */
    private static void giversDays() {
        CopiedSkins x = withMen(2);
        x.meet(0, 30);
        x.meet(1, 40);
        x.sick(1, 41);
        x.set(2, 5);
        x.set(3, 3);
        // had it from (sick - 5) to (sick - 1), gives it to two days more: day 40 for sick days 39 to 45
        for (int day = 30; day <= 55; day++) {
            x.sick(0, day);
            DUE.is("the giver is sick on day " + day, x.from(1), day >= 39 && day <= 45 ? 1 : 0);
        }
        x.set(3, 1);
        x.sick(0, 40);
        DUE.is("OPEN 1, had it the day ahead", x.from(1), 0);
        x.sick(0, 41);
        DUE.is("OPEN 1, had it on the day", x.from(1), 1);
        x.sick(0, -1);
        DUE.is("the giver was not sick", x.from(1), 0);
        CopiedSkins y = withMen(2);
        y.meet(0, 0);
        y.meet(1, 8);
        y.sick(0, 0);
        y.sick(1, 9);
        DUE.is("the giver had it ahead of day 0", y.from(1), 1);
        y.set(3, 9);
        DUE.is("a day too few", y.from(1), 0);
    }

    /** Only the man of the meeting straight ahead gives, and he is another one. */
    private static void whoGave() {
        CopiedSkins x = withMen(4);
        x.meet(2, 20);
        for (int m = 0; m < 3; m++) {
            x.sick(m, 22);
        }
        DUE.is("the first meeting of all", x.from(2), 0);
        x.meet(0, 20);
        x.meet(0, 20);
        DUE.is("from the one ahead", x.from(0), 4);
        x.meet(3, 20);
        x.meet(1, 20);
        DUE.is("from one that was not sick", x.from(1), 0);
        x.meet(0, 20);
        DUE.is("from two", x.from(0), 6);
        x.sick(3, 22);
        DUE.is("from one that is sick now", x.from(1), 8);
        DUE.is("firsts", x.firsts(0), 4);
    }

    /** 0 to 1 and 2, these to 3, 3 to 4; 5 is sick alone, 6 is not sick. */
    private static void paths() {
        CopiedSkins x = withMen(7);
        int[] order = {0, 1, 3, 4, 6, 0, 2, 3, 6, 5};
        for (int man : order) {
            x.meet(man, 50);
        }
        for (int m = 0; m < 6; m++) {
            x.sick(m, 52);
        }
        DUE.is("from two", x.from(3), 6);
        DUE.is("firsts", x.firsts(0), 1 + 32);
        DUE.is("sick men", x.firsts(1), 63);
        DUE.is("must of a first", x.must(0, 0), 1);
        DUE.is("path of a first", x.must(0, 1), 1);
        DUE.is("must of one straight from it", x.must(1, 0), 3);
        DUE.is("must round two ways", x.must(3, 0), 1 + 8);
        DUE.is("path round two ways", x.must(3, 1), 3);
        DUE.is("must behind them", x.must(4, 0), 1 + 8 + 16);
        DUE.is("path behind them", x.must(4, 1), 4);
        DUE.is("must of one alone", x.must(5, 0), 32);
        DUE.is("must of one not sick", x.must(6, 0), 0);
        DUE.is("path of one not sick", x.must(6, 1), 0);
        x.meet(3, 50);
        DUE.is("another first", x.must(3, 0), 8);
        DUE.is("a shorter path", x.must(3, 1), 2);
        DUE.is("behind it", x.must(4, 0), 8 + 16);
        DUE.is("a shorter path behind it", x.must(4, 1), 3);
    }

    /** Two that can have it only from one another have no path from a first. */
    private static void rings() {
        CopiedSkins x = withMen(8);
        for (int k = 0; k < 4; k++) {
            x.meet(k % 2, 10);
        }
        x.sick(0, 12);
        x.sick(1, 12);
        DUE.is("no firsts", x.firsts(0), 0);
        DUE.is("must in a ring", x.must(0, 0), 0);
        DUE.is("path in a ring", x.must(1, 1), 0);
        x.meet(2, 10);
        x.sick(2, 12);
        DUE.is("must behind a ring", x.must(2, 0), 0);
        x.meet(3, 10);
        x.meet(0, 10);
        x.sick(3, 12);
        DUE.is("a longer ring", x.firsts(0), 0);
        x.meet(4, 10);
        x.meet(2, 10);
        DUE.is("4 is not sick", x.firsts(0), 0);
        x.meet(5, 10);
        x.meet(3, 10);
        x.sick(5, 12);
        DUE.is("5 has it from 2", x.firsts(0), 0);
        x.meet(6, 10);
        x.meet(7, 10);
        x.meet(1, 10);
        x.sick(7, 12);
        DUE.is("7 is a first", x.firsts(0), 128);
        DUE.is("must from 7", x.must(3, 0), 128 + 2 + 4 + 8);
        DUE.is("path from 7", x.must(3, 1), 4);
        DUE.is("must of 5", x.must(5, 0), 128 + 2 + 4 + 32);
        DUE.is("path to 0", x.must(0, 1), 3);
    }

    /** A path may have all the men. */
    private static void longPath() {
        CopiedSkins x = withMen(8);
        for (int m = 0; m < 8; m++) {
            x.meet(m, 10);
            x.sick(m, 12);
        }
        DUE.is("must of all", x.must(7, 0), 255);
        DUE.is("path of all", x.must(7, 1), 8);
    }

    private static void refusals() {
        CopiedSkins x = withMen(1);
        DUE.is("from of no man", x.from(1), CopiedSkins.UNKNOWN);
        DUE.is("from of man -1", x.from(-1), CopiedSkins.UNKNOWN);
        DUE.is("firsts -1", x.firsts(-1), CopiedSkins.OUTSIDE);
        DUE.is("firsts 2", x.firsts(2), CopiedSkins.OUTSIDE);
        DUE.is("must of no man", x.must(1, 0), CopiedSkins.UNKNOWN);
        DUE.is("must, unknown goes ahead", x.must(1, 2), CopiedSkins.UNKNOWN);
        DUE.is("must -1", x.must(0, -1), CopiedSkins.OUTSIDE);
        DUE.is("must 2", x.must(0, 2), CopiedSkins.OUTSIDE);
    }
}
