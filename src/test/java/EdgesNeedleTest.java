import java.util.List;

/** The edges of promises 23 to 28, a method a sentence of the document: men, meetings, sickness, paths. */
public final class EdgesNeedleTest {
    private static final Edge EDGE = new Edge();
    private static final List<Scene> ALL = List.of(Scene.values());
    private static final List<Scene> EMPTY = List.of(Scene.EMPTY);
    private static final List<Scene> HALF = List.of(Scene.HALF);
    private static final List<Scene> FULL = List.of(Scene.FULL);
    private static final List<Scene> NOT_EMPTY = List.of(Scene.HALF, Scene.FULL);
    private static final int UNKNOWN = CopiedSkins.UNKNOWN, OUTSIDE = CopiedSkins.OUTSIDE, NONE = CopiedSkins.NONE;

    public static void main(String[] args) {
        menEightAtMost();
        meetUnknown();
        meetDays();
        meetNotAheadOfTheLast();
        meetingsSixteenAtMost();
        meetOrderOfRefusals();
        sickUnknown();
        sickDays();
        sickAnswersWhichItWas();
        fromUnknown();
        fromOfOneWhoIsNotSick();
        fromOwnMeetingOneToWaitAhead();
        fromGiverHadItOneToWaitAhead();
        fromGiverOpenDays();
        fromOwnDayNotTheGivers();
        fromAheadOfDayZero();
        fromStraightAhead();
        fromAnotherOne();
        fromGiverFellSickToo();
        fromAnyMeetingOfHis();
        fromAsBits();
        firstsOutside();
        firstsNobodyAndAll();
        mustUnknown();
        mustOutside();
        mustNone();
        mustItselfToo();
        mustOnAllPaths();
        mustUnlikeMen();
        mustOfEight();
        needleFollowsWhatIsSet();
        EDGE.end();
    }

    /** Men who sat in this order, all on one day, and all fell sick on another. */
    private static CopiedSkins sat(int men, int day, int sick, int... order) {
        CopiedSkins x = new CopiedSkins();
        for (int m = 0; m < men; m++) {
            x.man();
            x.sick(m, sick);
        }
        for (int man : order) {
            x.meet(man, day);
        }
        return x;
    }

    // ---- promise 23

    private static void menEightAtMost() {
        EDGE.sentence("23: MEN, 8 at most, numbered from 0 on; FULL");
        CopiedSkins x = new CopiedSkins();
        for (int m = 0; m < 8; m++) {
            EDGE.answers(x, m, "man");
        }
        EDGE.answers(x, CopiedSkins.FULL, "man");
        EDGE.answers(x, 8, "told", 3);
        EDGE.answers(x, UNKNOWN, "from", 8);
        EDGE.answers(x, 0, "from", 7);
        EDGE.refused(CopiedSkins.FULL, FULL, "man");
    }

    // ---- promise 24

    private static void meetUnknown() {
        EDGE.sentence("24: a MEETING of a MAN; UNKNOWN");
        EDGE.refused(UNKNOWN, EMPTY, "meet", 0, 50);
        EDGE.bounds(UNKNOWN, HALF, 0, 0, 2, "meet", 0, 50);
        EDGE.bounds(UNKNOWN, FULL, 0, 0, 7, "meet", 0, 50);
    }

    private static void meetDays() {
        EDGE.sentence("24: OUTSIDE: the DAY (0 to 99)");
        // the scenes' last meeting is on day 50
        EDGE.bounds(OUTSIDE, NOT_EMPTY, 1, 50, 99, "meet", 0, 0);
        EDGE.refused(OUTSIDE, NOT_EMPTY, "meet", 0, -1);
        int[] wrong = {Integer.MIN_VALUE, -65536, -1, 100, 256, Integer.MAX_VALUE};
        for (int day : wrong) {
            CopiedSkins x = sat(1, 0, 5);
            EDGE.answers(x, OUTSIDE, "meet", 0, day);
            EDGE.answers(x, 0, "told", 4);
            EDGE.answers(x, 0, "meet", 0, 0);
        }
        EDGE.answers(sat(1, 0, 5), 0, "meet", 0, 99);
    }

    private static void meetNotAheadOfTheLast() {
        EDGE.sentence("24: not ahead of the last one's");
        CopiedSkins x = sat(2, 0, 5);
        EDGE.answers(x, 0, "meet", 0, 1);
        EDGE.answers(x, OUTSIDE, "meet", 1, 0);
        EDGE.answers(x, 1, "meet", 1, 1);
        EDGE.answers(x, 2, "meet", 1, 98);
        EDGE.answers(x, OUTSIDE, "meet", 0, 97);
        EDGE.answers(x, 3, "meet", 0, 99);
        EDGE.answers(x, OUTSIDE, "meet", 0, 98);
        EDGE.answers(x, OUTSIDE, "meet", 0, 100);
        EDGE.answers(x, 4, "meet", 0, 99);
        EDGE.sentence("24: a refused MEETING leaves the last one's DAY as it was");
        CopiedSkins y = sat(1, 0, 5, 0);
        y.meet(0, 100);
        y.meet(1, 60);
        EDGE.answers(y, 1, "meet", 0, 0);
        EDGE.refused(OUTSIDE, NOT_EMPTY, "meet", 0, 49);
        EDGE.refused(OUTSIDE, NOT_EMPTY, "meet", 1, 0);
    }

    private static void meetingsSixteenAtMost() {
        EDGE.sentence("24: MEETINGS, 16 at most: its number; FULL");
        CopiedSkins x = sat(2, 0, 5);
        for (int k = 0; k < 16; k++) {
            EDGE.answers(x, k, "meet", k % 2, 2 * k);
        }
        EDGE.answers(x, CopiedSkins.FULL, "meet", 0, 30);
        EDGE.answers(x, CopiedSkins.FULL, "meet", 0, 99);
        EDGE.answers(x, 16, "told", 4);
        EDGE.refused(CopiedSkins.FULL, FULL, "meet", 0, 50);
        EDGE.refused(CopiedSkins.FULL, FULL, "meet", 7, 99);
        EDGE.sentence("24: the sixteenth MEETING counts");
        CopiedSkins y = sat(3, 10, 12, 0, 0, 0, 0, 0, 0, 0, 0, 0, 0, 0, 0, 0, 0, 2, 1);
        EDGE.answers(y, 4, "from", 1);
        EDGE.answers(y, 1, "from", 2);
    }

    private static void meetOrderOfRefusals() {
        EDGE.sentence("24: UNKNOWN ahead of OUTSIDE ahead of FULL");
        EDGE.refused(UNKNOWN, ALL, "meet", 8, 100);
        EDGE.refused(UNKNOWN, ALL, "meet", -1, -1);
        EDGE.refused(UNKNOWN, FULL, "meet", 8, 50);
        EDGE.refused(OUTSIDE, FULL, "meet", 0, 100);
        EDGE.refused(OUTSIDE, FULL, "meet", 0, 49);
    }

    // ---- promise 25

    private static void sickUnknown() {
        EDGE.sentence("25: a MAN fell sick; UNKNOWN");
        EDGE.refused(UNKNOWN, EMPTY, "sick", 0, 1);
        EDGE.bounds(UNKNOWN, HALF, 0, 0, 2, "sick", 0, 5);
        EDGE.bounds(UNKNOWN, FULL, 0, 0, 7, "sick", 0, 5);
        EDGE.sentence("25: UNKNOWN is answered ahead of OUTSIDE");
        EDGE.refused(UNKNOWN, ALL, "sick", 8, 100);
        EDGE.refused(UNKNOWN, ALL, "sick", -1, -2);
    }

    private static void sickDays() {
        EDGE.sentence("25: on a DAY (0 to 99; -1: not); OUTSIDE");
        EDGE.bounds(OUTSIDE, NOT_EMPTY, 1, -1, 99, "sick", 0, 0);
        EDGE.bounds(OUTSIDE, FULL, 1, -1, 99, "sick", 7, 0);
    }

    private static void sickAnswersWhichItWas() {
        EDGE.sentence("25: which it was (NONE)");
        CopiedSkins x = new CopiedSkins();
        x.man();
        x.man();
        EDGE.answers(x, NONE, "sick", 0, 0);
        EDGE.answers(x, 0, "sick", 0, 99);
        EDGE.answers(x, 99, "sick", 0, 99);
        EDGE.answers(x, OUTSIDE, "sick", 0, 100);
        EDGE.answers(x, OUTSIDE, "sick", 0, -2);
        EDGE.answers(x, 1, "firsts", 1);
        EDGE.answers(x, 99, "sick", 0, -1);
        EDGE.answers(x, NONE, "sick", 0, -1);
        EDGE.answers(x, NONE, "sick", 1, -1);
        EDGE.answers(x, 0, "firsts", 1);
    }

    // ---- promise 26

    private static void fromUnknown() {
        EDGE.sentence("26: MEN FROM whom one may have had it; UNKNOWN");
        EDGE.refused(UNKNOWN, EMPTY, "from", 0);
        EDGE.bounds(UNKNOWN, HALF, 0, 0, 2, "from", 0);
        EDGE.bounds(UNKNOWN, FULL, 0, 0, 7, "from", 0);
    }

    private static void fromOfOneWhoIsNotSick() {
        EDGE.sentence("26: FROM: a sick MAN may have had it");
        CopiedSkins x = sat(2, 10, 12, 0, 1);
        EDGE.answers(x, 1, "from", 1);
        x.sick(1, -1);
        EDGE.answers(x, 0, "from", 1);
    }

    /** Man 0 can give it on day 40 by any WAIT and OPEN: he fell sick on day 41. */
    private static void fromOwnMeetingOneToWaitAhead() {
        EDGE.sentence("26: at a MEETING of his that is 1 to WAIT DAYS ahead of when he fell sick");
        int[] waits = {1, 2, 10, 30};
        for (int wait : waits) {
            CopiedSkins x = sat(2, 40, 41, 0, 1);
            x.set(2, wait);
            int[] days = {0, 39, 40, 41, 40 + wait, 41 + wait, 99};
            for (int day : days) {
                x.sick(1, day);
                EDGE.is("WAIT " + wait + ", sick on day " + day, x.from(1), day > 40 && day <= 40 + wait ? 1 : 0);
            }
        }
    }

    /** Man 1 sat on day 40 and fell sick the day after; OPEN 1: the giver had it on day 40 or not at all. */
    private static void fromGiverHadItOneToWaitAhead() {
        EDGE.sentence("26: by some DAY on which the giver may have had it (1 to WAIT ahead of the giver's sickness)");
        int[] waits = {1, 2, 10, 30};
        for (int wait : waits) {
            CopiedSkins x = sat(2, 40, 41, 0, 1);
            x.set(2, wait);
            x.set(3, 1);
            int[] days = {0, 39, 40, 41, 40 + wait, 41 + wait, 99};
            for (int day : days) {
                x.sick(0, day);
                EDGE.is("WAIT " + wait + ", giver sick on day " + day, x.from(1), day > 40 && day <= 40 + wait ? 1 : 0);
            }
        }
    }

    /** WAIT 1: the giver had it the day ahead of his sickness. */
    private static void fromGiverOpenDays() {
        EDGE.sentence("26: could give it from that on for OPEN DAYS (the first counted)");
        int[] opens = {1, 2, 10, 30};
        for (int open : opens) {
            CopiedSkins x = sat(2, 40, 41, 0, 1);
            x.set(2, 1);
            x.set(3, open);
            int[] days = {40 - open, 41 - open, 42 - open, 41, 42, 43, 99};
            for (int day : days) {
                x.sick(0, day);
                EDGE.is("OPEN " + open + ", giver sick on day " + day, x.from(1), day > 41 - open && day <= 41 ? 1 : 0);
            }
        }
    }

    private static void fromOwnDayNotTheGivers() {
        EDGE.sentence("26: could give it on the DAY of the sick MAN's own MEETING");
        CopiedSkins x = sat(2, 0, 51, 0);
        x.meet(1, 50);
        // the giver sat fifty days ahead, but could give it on day 50
        EDGE.answers(x, 1, "from", 1);
        x.sick(0, 1);
        // he could give it when he sat, not on day 50
        EDGE.answers(x, 0, "from", 1);
    }

    private static void fromAheadOfDayZero() {
        EDGE.sentence("26: (1 to WAIT ahead of the giver's sickness; only that is asked)");
        CopiedSkins x = sat(2, 0, 0, 0, 1);
        x.sick(1, 1);
        EDGE.answers(x, 1, "from", 1);
        x.set(3, 2);
        EDGE.answers(x, 1, "from", 1);
        x.set(3, 1);
        EDGE.answers(x, 0, "from", 1);
        x.sick(0, 1);
        EDGE.answers(x, 1, "from", 1);
        EDGE.sentence("26: one who fell sick on DAY 0 or sat on DAY 99 had it at no MEETING");
        x.sick(1, 0);
        EDGE.answers(x, 0, "from", 1);
        CopiedSkins late = sat(2, 99, 99, 0, 1);
        EDGE.answers(late, 0, "from", 1);
        CopiedSkins ahead = sat(2, 98, 99, 0, 1);
        EDGE.answers(ahead, 1, "from", 1);
    }

    private static void fromStraightAhead() {
        EDGE.sentence("26: from the MAN of the MEETING straight ahead of it");
        EDGE.answers(sat(3, 10, 12, 0), 0, "from", 0);
        EDGE.answers(sat(3, 10, 12, 0, 1), 0, "from", 0);
        EDGE.answers(sat(3, 10, 12, 0, 1, 2), 2, "from", 2);
        EDGE.answers(sat(3, 10, 12, 0, 0, 2), 1, "from", 2);
    }

    private static void fromAnotherOne() {
        EDGE.sentence("26: if that one is another one");
        EDGE.answers(sat(2, 10, 12, 0, 0), 0, "from", 0);
        EDGE.answers(sat(2, 10, 12, 1, 0, 0), 2, "from", 0);
        // 1 sat ahead of his first, but he could have it at his second alone, behind himself
        CopiedSkins x = sat(2, 10, 45, 1, 0);
        x.meet(0, 40);
        EDGE.answers(x, 0, "from", 0);
    }

    private static void fromGiverFellSickToo() {
        EDGE.sentence("26: fell sick too");
        CopiedSkins x = sat(3, 10, 12, 0, 1, 2);
        x.sick(1, -1);
        EDGE.answers(x, 0, "from", 2);
        x.sick(1, 12);
        EDGE.answers(x, 2, "from", 2);
    }

    private static void fromAnyMeetingOfHis() {
        EDGE.sentence("26: at a MEETING of his: the first, the last, any between");
        CopiedSkins x = sat(4, 10, 12, 1, 0, 2, 0, 3, 0);
        EDGE.answers(x, 2 + 4 + 8, "from", 0);
        x.sick(1, -1);
        EDGE.answers(x, 4 + 8, "from", 0);
        x.sick(3, -1);
        EDGE.answers(x, 4, "from", 0);
    }

    private static void fromAsBits() {
        EDGE.sentence("26: as bits: seven others at most");
        CopiedSkins x = sat(8, 10, 12, 1, 0, 2, 0, 3, 0, 4, 0, 5, 0, 6, 0, 7, 0);
        EDGE.answers(x, 254, "from", 0);
        CopiedSkins y = sat(8, 10, 12, 0, 7, 1, 7, 2, 7, 3, 7, 4, 7, 5, 7, 6, 7);
        EDGE.answers(y, 127, "from", 7);
        EDGE.answers(y, 0, "from", 0);
    }

    // ---- promise 27

    private static void firstsOutside() {
        EDGE.sentence("27: FIRSTS (what = 0), sick MEN (1); OUTSIDE");
        EDGE.bounds(OUTSIDE, ALL, 0, 0, 1, "firsts", 0);
    }

    private static void firstsNobodyAndAll() {
        EDGE.sentence("27: sick MEN who can have it FROM nobody, as bits: none, all");
        CopiedSkins x = new CopiedSkins();
        EDGE.answers(x, 0, "firsts", 0);
        EDGE.answers(x, 0, "firsts", 1);
        for (int m = 0; m < 8; m++) {
            x.man();
        }
        EDGE.answers(x, 0, "firsts", 0);
        EDGE.answers(x, 0, "firsts", 1);
        CopiedSkins all = sat(8, 10, 12);
        EDGE.answers(all, 255, "firsts", 0);
        EDGE.answers(all, 255, "firsts", 1);
        CopiedSkins ring = sat(2, 10, 12, 0, 1, 0);
        EDGE.answers(ring, 0, "firsts", 0);
        EDGE.answers(ring, 3, "firsts", 1);
        CopiedSkins last = sat(8, 10, 12, 7, 0, 1);
        EDGE.answers(last, 255 - 3, "firsts", 0);
        last.sick(7, -1);
        EDGE.answers(last, 127 - 2, "firsts", 0);
        EDGE.answers(last, 127, "firsts", 1);
    }

    // ---- promise 28

    private static void mustUnknown() {
        EDGE.sentence("28: MUST; UNKNOWN");
        EDGE.refused(UNKNOWN, EMPTY, "must", 0, 0);
        EDGE.bounds(UNKNOWN, HALF, 0, 0, 2, "must", 0, 0);
        EDGE.bounds(UNKNOWN, FULL, 0, 0, 7, "must", 0, 1);
        EDGE.sentence("28: UNKNOWN is answered ahead of OUTSIDE");
        EDGE.refused(UNKNOWN, ALL, "must", 8, 2);
        EDGE.refused(UNKNOWN, ALL, "must", -1, -1);
    }

    private static void mustOutside() {
        EDGE.sentence("28: as bits (what = 0), how many MEN (1); OUTSIDE");
        EDGE.bounds(OUTSIDE, NOT_EMPTY, 1, 0, 1, "must", 0, 0);
        EDGE.bounds(OUTSIDE, NOT_EMPTY, 1, 0, 1, "must", 2, 0);
    }

    private static void isPath(CopiedSkins x, int man, int must, int length) {
        EDGE.answers(x, must, "must", man, 0);
        EDGE.answers(x, length, "must", man, 1);
    }

    private static void mustNone() {
        EDGE.sentence("28: none, if there is no PATH; (0: there is none)");
        CopiedSkins x = sat(3, 10, 12, 0, 1, 0, 1, 2);
        // 0 and 1 have it from one another alone, 2 from 1
        isPath(x, 0, 0, 0);
        isPath(x, 1, 0, 0);
        isPath(x, 2, 0, 0);
        x.sick(2, -1);
        isPath(x, 2, 0, 0);
        CopiedSkins well = new CopiedSkins();
        well.man();
        isPath(well, 0, 0, 0);
    }

    private static void mustItselfToo() {
        EDGE.sentence("28: (itself, too)");
        CopiedSkins x = sat(2, 10, 12, 0, 1);
        isPath(x, 0, 1, 1);
        isPath(x, 1, 3, 2);
        // one who sat for no needle is one of FIRSTS
        isPath(sat(8, 10, 12), 7, 128, 1);
    }

    private static void mustOnAllPaths() {
        EDGE.sentence("28: the MEN that are on all PATHS from any of FIRSTS to a MAN");
        // 0 to 1 to 3, 0 to 2 to 3, 3 to 4; 5 is not sick and parts them
        CopiedSkins x = sat(8, 10, 12, 0, 1, 3, 4, 5, 0, 2, 3);
        x.sick(5, -1);
        isPath(x, 3, 1 + 8, 3);
        isPath(x, 4, 1 + 8 + 16, 4);
        // another of FIRSTS, 6, gives it to 2: then 0 is on all PATHS no more
        x.meet(5, 10);
        x.meet(6, 10);
        x.meet(2, 10);
        EDGE.answers(x, 1 + 64, "from", 2);
        isPath(x, 2, 4, 2);
        isPath(x, 3, 8, 3);
        isPath(x, 4, 8 + 16, 4);
    }

    private static void mustUnlikeMen() {
        EDGE.sentence("28: PATH: sick MEN by steps of FROM, each of an unlike MAN");
        // 2 to 0, 0 and 1 to one another: the way round 1 and back is no PATH to 0
        CopiedSkins x = sat(3, 10, 12, 2, 0, 1, 0);
        isPath(x, 0, 1 + 4, 2);
        isPath(x, 1, 1 + 2 + 4, 3);
    }

    private static void mustOfEight() {
        EDGE.sentence("28: how many MEN a shortest PATH from one of FIRSTS has: eight");
        CopiedSkins x = sat(8, 10, 12, 0, 1, 2, 3, 4, 5, 6, 7);
        for (int m = 0; m < 8; m++) {
            isPath(x, m, (2 << m) - 1, m + 1);
        }
        EDGE.sentence("28: a shortest PATH");
        x.meet(0, 10);
        EDGE.answers(x, 128, "from", 0);
        // 0 is no longer one of FIRSTS: nobody is
        isPath(x, 7, 0, 0);
        CopiedSkins y = sat(8, 10, 12, 0, 1, 2, 3, 4, 5, 6, 7);
        y.sick(0, -1);
        isPath(y, 7, 254, 7);
        isPath(y, 0, 0, 0);
    }

    private static void needleFollowsWhatIsSet() {
        EDGE.sentence("26 to 28: by WAIT and OPEN as they are now");
        CopiedSkins x = sat(2, 10, 12, 0, 1);
        isPath(x, 1, 3, 2);
        x.set(2, 1);
        EDGE.answers(x, 0, "from", 1);
        EDGE.answers(x, 3, "firsts", 0);
        isPath(x, 1, 2, 1);
        x.set(2, 2);
        EDGE.answers(x, 1, "from", 1);
        EDGE.answers(x, 1, "firsts", 0);
        isPath(x, 1, 3, 2);
        x.sick(0, 2);
        EDGE.answers(x, 1, "from", 1);
        x.set(3, 9);
        EDGE.answers(x, 0, "from", 1);
        x.set(3, 10);
        EDGE.answers(x, 1, "from", 1);
    }
}
