import java.util.List;

/** The edges of promises 1 to 10 and 31, a method a sentence of the document: pictures, what is set, the law. */
public final class EdgesPicturesTest {
    private static final Edge EDGE = new Edge();
    private static final List<Scene> ALL = List.of(Scene.values());
    private static final List<Scene> FULL = List.of(Scene.FULL);
    private static final List<Scene> NOT_FULL = List.of(Scene.EMPTY, Scene.HALF);
    private static final List<Scene> NOT_EMPTY = List.of(Scene.HALF, Scene.FULL);
    private static final int UNKNOWN = CopiedSkins.UNKNOWN, OUTSIDE = CopiedSkins.OUTSIDE, NONE = CopiedSkins.NONE;
    // 49 signs: ten lines are the most that fifty signs can hold
    private static final String TEN_LINES = "01=1;02=2;03=3;10=4;12=5;13=6;20=7;21=8;23=9;30=0";

    public static void main(String[] args) {
        newObject();
        objectsShareNothing();
        pictureDrawing();
        pictureYears();
        pictureLeastAboveGreatest();
        picturesSixAtMost();
        pictureNumbersBehindRestore();
        aboutUnknown();
        aboutOutside();
        aboutWidthNone();
        setWhich();
        setValues();
        setAtFirst();
        setAnswersWhatItWas();
        sayCodes();
        sayFiftyAtMost();
        sayAgainBehindWipeAndLaw();
        wipeCounts();
        wipeLeavesTheLaw();
        faultOfNoSigns();
        faultOfEachSignAtEachPlace();
        faultIsTheFirst();
        faultIfMoreMustCome();
        faultOfFiftySigns();
        lawRefused();
        lawOfNoSigns();
        lawEmptiesTheSigns();
        lawOfOneLineAndOfTen();
        lawIsTheNewestAlone();
        slipKinds();
        slipOfAlikeOnes();
        slipFirstLineThatFits();
        slipTenIfNoneFits();
        slipOneOrTwoDigits();
        costDrawings();
        costLeastAndGreatest();
        costIsFromTheOneToTheOther();
        costStrokeByStroke();
        toldOutside();
        toldEmptyAndFull();
        EDGE.end();
    }

    private static CopiedSkins withLaw(String text) {
        CopiedSkins x = new CopiedSkins();
        Due.law(x, text);
        return x;
    }

    // ---- promise 1

    private static void newObject() {
        EDGE.sentence("1: No PICTURES, MEN; no LAW");
        CopiedSkins x = new CopiedSkins();
        for (int what = 0; what < 5; what++) {
            EDGE.answers(x, 0, "told", what);
        }
        EDGE.answers(x, UNKNOWN, "about", 0, 0);
        EDGE.answers(x, UNKNOWN, "from", 0);
        EDGE.answers(x, CopiedSkins.STATE, "least", 0);
        EDGE.answers(x, 0, "under", 65535);
        EDGE.answers(x, 0, "firsts", 1);
        EDGE.answers(x, 0, "wipe");
        for (int a = 0; a < 4; a++) {
            for (int b = 0; b < 4; b++) {
                EDGE.answers(x, a == b ? 0 : 10, "slip", a, b);
            }
        }
        EDGE.answers(x, 0, "picture", 0, 0, 0);
        EDGE.answers(x, 0, "man");
    }

    private static void objectsShareNothing() {
        EDGE.sentence("1: No PICTURES, MEN; no LAW, whatever another object has");
        List<String> ofNew = Looks.at(new CopiedSkins());
        CopiedSkins full = Scene.FULL.make();
        EDGE.is("lines that are unlike", unlike(Looks.at(new CopiedSkins()), ofNew), 0);
        EDGE.answers(full, 6, "told", 0);
    }

    private static int unlike(List<String> some, List<String> others) {
        int count = 0;
        for (int i = 0; i < some.size(); i++) {
            count += some.get(i).equals(others.get(i)) ? 0 : 1;
        }
        return count;
    }

    // ---- promise 2

    private static void pictureDrawing() {
        EDGE.sentence("2: a DRAWING is 0 to 65535");
        EDGE.bounds(OUTSIDE, ALL, 0, 0, 65535, "picture", 0, 0, 0);
        CopiedSkins x = new CopiedSkins();
        EDGE.answers(x, 0, "picture", 0, 5, 6);
        EDGE.answers(x, 1, "picture", 65535, 5, 6);
        EDGE.answers(x, 0, "about", 0, 0);
        EDGE.answers(x, 65535, "about", 1, 0);
    }

    private static void pictureYears() {
        EDGE.sentence("2: YEARS as a span (0 to 99 each)");
        EDGE.bounds(OUTSIDE, ALL, 1, 0, 99, "picture", 7, 0, 99);
        EDGE.bounds(OUTSIDE, ALL, 2, 0, 99, "picture", 7, 0, 0);
        EDGE.refused(OUTSIDE, ALL, "picture", 7, -1, -1);
        EDGE.refused(OUTSIDE, ALL, "picture", 7, 100, 100);
        EDGE.refused(OUTSIDE, ALL, "picture", 7, Integer.MIN_VALUE, Integer.MAX_VALUE);
        CopiedSkins x = new CopiedSkins();
        EDGE.answers(x, 0, "picture", 7, 0, 99);
        EDGE.answers(x, 0, "about", 0, 1);
        EDGE.answers(x, 99, "about", 0, 2);
    }

    private static void pictureLeastAboveGreatest() {
        EDGE.sentence("2: OUTSIDE: also the least YEAR above the greatest");
        EDGE.refused(OUTSIDE, ALL, "picture", 7, 1, 0);
        EDGE.refused(OUTSIDE, ALL, "picture", 7, 50, 49);
        EDGE.refused(OUTSIDE, ALL, "picture", 7, 99, 98);
        EDGE.refused(OUTSIDE, ALL, "picture", 7, 99, 0);
        int[] alike = {0, 50, 99};
        for (int year : alike) {
            CopiedSkins x = new CopiedSkins();
            EDGE.answers(x, 0, "picture", 7, year, year);
            EDGE.answers(x, year, "about", 0, 1);
            EDGE.answers(x, year, "about", 0, 2);
        }
    }

    private static void picturesSixAtMost() {
        EDGE.sentence("2: PICTURES, 6 at most, numbered from 0 on; FULL");
        CopiedSkins x = new CopiedSkins();
        for (int p = 0; p < 6; p++) {
            EDGE.answers(x, p, "picture", 100 + p, p, 90 + p);
        }
        EDGE.answers(x, CopiedSkins.FULL, "picture", 1, 2, 3);
        EDGE.answers(x, CopiedSkins.FULL, "picture", 1, 2, 3);
        for (int p = 0; p < 6; p++) {
            EDGE.answers(x, 100 + p, "about", p, 0);
            EDGE.answers(x, p, "about", p, 1);
            EDGE.answers(x, 90 + p, "about", p, 2);
        }
        EDGE.refused(CopiedSkins.FULL, FULL, "picture", 0, 0, 0);
        EDGE.refused(CopiedSkins.FULL, FULL, "picture", 65535, 99, 99);
        EDGE.sentence("2: OUTSIDE is answered ahead of FULL");
        EDGE.refused(OUTSIDE, FULL, "picture", 65536, 0, 0);
        EDGE.refused(OUTSIDE, FULL, "picture", 0, 0, 100);
        EDGE.refused(OUTSIDE, FULL, "picture", 0, 1, 0);
    }

    private static void pictureNumbersBehindRestore() {
        EDGE.sentence("2: a PICTURE: its number, also behind restore()");
        CopiedSkins x = new CopiedSkins();
        x.picture(1, 0, 9);
        x.image(0);
        for (int p = 1; p < 6; p++) {
            x.picture(1 + p, 0, 9);
            x.width(p, 500);
        }
        EDGE.answers(x, CopiedSkins.FULL, "picture", 9, 1, 2);
        x.restore(0);
        EDGE.answers(x, 1, "picture", 9, 1, 2);
        EDGE.answers(x, NONE, "about", 1, 3);
        EDGE.answers(x, UNKNOWN, "about", 2, 0);
    }

    // ---- promise 3

    private static void aboutUnknown() {
        EDGE.sentence("3: about a PICTURE that is not there: UNKNOWN");
        EDGE.refused(UNKNOWN, List.of(Scene.EMPTY), "about", 0, 0);
        EDGE.bounds(UNKNOWN, List.of(Scene.HALF), 0, 0, 2, "about", 0, 0);
        EDGE.bounds(UNKNOWN, FULL, 0, 0, 5, "about", 0, 3);
        EDGE.sentence("3: UNKNOWN is answered ahead of OUTSIDE");
        EDGE.refused(UNKNOWN, ALL, "about", 6, 4);
        EDGE.refused(UNKNOWN, ALL, "about", -1, -1);
        EDGE.refused(UNKNOWN, ALL, "about", Integer.MIN_VALUE, Integer.MAX_VALUE);
    }

    private static void aboutOutside() {
        EDGE.sentence("3: 0 the DRAWING to 3 WIDTH; OUTSIDE");
        EDGE.bounds(OUTSIDE, NOT_EMPTY, 1, 0, 3, "about", 0, 0);
    }

    private static void aboutWidthNone() {
        EDGE.sentence("3: 3 WIDTH (NONE)");
        CopiedSkins x = new CopiedSkins();
        x.picture(7, 0, 9);
        EDGE.answers(x, NONE, "about", 0, 3);
        x.width(0, 1);
        EDGE.answers(x, 1, "about", 0, 3);
        x.width(0, 999);
        EDGE.answers(x, 999, "about", 0, 3);
        x.width(0, 0);
        EDGE.answers(x, NONE, "about", 0, 3);
    }

    // ---- promise 4

    private static void setWhich() {
        EDGE.sentence("4: 0 NEW, 1 NOW, 2 WAIT, 3 OPEN; OUTSIDE");
        EDGE.bounds(OUTSIDE, ALL, 0, 0, 3, "set", 0, 5);
        EDGE.refused(OUTSIDE, ALL, "set", 4, 100);
    }

    private static void setValues() {
        EDGE.sentence("4: NEW: 0 to 99");
        EDGE.bounds(OUTSIDE, ALL, 1, 0, 99, "set", 0, 0);
        EDGE.sentence("4: NOW: 0 to 99");
        EDGE.bounds(OUTSIDE, ALL, 1, 0, 99, "set", 1, 0);
        EDGE.sentence("4: WAIT 1 to 30");
        EDGE.bounds(OUTSIDE, ALL, 1, 1, 30, "set", 2, 0);
        EDGE.sentence("4: OPEN DAYS (1 to 30)");
        EDGE.bounds(OUTSIDE, ALL, 1, 1, 30, "set", 3, 0);
    }

    private static void setAtFirst() {
        EDGE.sentence("4: NEW 20, NOW 99, WAIT 10, OPEN 10 at first");
        int[] first = {20, 99, 10, 10};
        for (int which = 0; which < 4; which++) {
            EDGE.answers(new CopiedSkins(), first[which], "set", which, 5);
            EDGE.answers(new CopiedSkins(), first[which], "told", 5 + which);
        }
    }

    private static void setAnswersWhatItWas() {
        EDGE.sentence("4: which it was");
        int[] low = {0, 0, 1, 1};
        int[] high = {99, 99, 30, 30};
        CopiedSkins x = new CopiedSkins();
        for (int which = 0; which < 4; which++) {
            x.set(which, low[which]);
            EDGE.answers(x, low[which], "set", which, high[which]);
            EDGE.answers(x, high[which], "set", which, high[which]);
            EDGE.answers(x, high[which], "told", 5 + which);
            // the others are as they were
            for (int other = which + 1; other < 4; other++) {
                EDGE.answers(x, other == 1 ? 99 : 10, "told", 5 + other);
            }
        }
    }

    // ---- promises 5 and 6

    private static void sayCodes() {
        EDGE.sentence("5: signs (codes 33 to 126); OUTSIDE");
        EDGE.bounds(OUTSIDE, ALL, 0, 33, 126, "say", 33);
        EDGE.refused(OUTSIDE, ALL, "say", 0);
        EDGE.sentence("5: a sign more: how many");
        CopiedSkins x = new CopiedSkins();
        EDGE.answers(x, 1, "say", 33);
        EDGE.answers(x, OUTSIDE, "say", 32);
        EDGE.answers(x, OUTSIDE, "say", 127);
        EDGE.answers(x, 2, "say", 126);
    }

    private static void sayFiftyAtMost() {
        EDGE.sentence("5: a text of up to 50 signs; FULL");
        CopiedSkins x = new CopiedSkins();
        for (int n = 1; n <= 50; n++) {
            EDGE.answers(x, n, "say", (int) (TEN_LINES + "1").charAt(n - 1));
        }
        EDGE.answers(x, CopiedSkins.FULL, "say", (int) '2');
        EDGE.answers(x, CopiedSkins.FULL, "say", (int) ';');
        EDGE.answers(x, 50, "told", 1);
        EDGE.answers(x, NONE, "fault");
        EDGE.refused(CopiedSkins.FULL, FULL, "say", 33);
        EDGE.refused(CopiedSkins.FULL, FULL, "say", 126);
        EDGE.sentence("5: OUTSIDE is answered ahead of FULL");
        EDGE.refused(OUTSIDE, FULL, "say", 32);
        EDGE.refused(OUTSIDE, FULL, "say", 127);
    }

    private static void sayAgainBehindWipeAndLaw() {
        EDGE.sentence("5: a sign more: how many, when fifty have gone");
        CopiedSkins x = Scene.FULL.make();
        x.wipe();
        EDGE.answers(x, 1, "say", (int) '0');
        CopiedSkins y = Scene.FULL.make();
        y.law();
        EDGE.answers(y, 1, "say", (int) '0');
        Due.say(y, "*".repeat(48));
        EDGE.answers(y, 50, "say", (int) '*');
        EDGE.answers(y, CopiedSkins.FULL, "say", (int) '*');
    }

    private static void wipeCounts() {
        EDGE.sentence("6: signs go: how many there were");
        CopiedSkins x = new CopiedSkins();
        EDGE.answers(x, 0, "wipe");
        x.say('0');
        EDGE.answers(x, 1, "wipe");
        EDGE.answers(x, 0, "wipe");
        EDGE.answers(x, 0, "told", 1);
        CopiedSkins full = Scene.FULL.make();
        EDGE.answers(full, 50, "wipe");
        EDGE.answers(full, 0, "wipe");
        // an old sign must not come back
        x.say('4');
        x.wipe();
        Due.say(x, "01=1");
        EDGE.answers(x, NONE, "fault");
    }

    private static void wipeLeavesTheLaw() {
        EDGE.sentence("6: signs go; THE LAW stays");
        CopiedSkins x = withLaw("01=1;02=2");
        Due.say(x, "01=9");
        x.wipe();
        EDGE.answers(x, 1, "slip", 0, 1);
        EDGE.answers(x, 2, "told", 2);
    }

    // ---- promise 7

    private static void faultOf(String text, int want) {
        CopiedSkins x = new CopiedSkins();
        Due.say(x, text);
        EDGE.is("fault of " + text, x.fault(), want);
        EDGE.is("law of " + text, x.law() == CopiedSkins.NO ? 1 : 0, want == NONE ? 0 : 1);
    }

    private static void faultOfNoSigns() {
        EDGE.sentence("7: LINES, one at least: no signs are at fault");
        faultOf("", 0);
        CopiedSkins x = withLaw("01=1");
        EDGE.answers(x, 0, "fault");
    }

    private static void faultOfEachSignAtEachPlace() {
        EDGE.sentence("7: two signs 0 to 3 or *, a =, 1 or 2 digits, a ; between two");
        String[] ahead = {"", "0", "0*", "0*=", "0*=1", "0*=12"};
        String[] mayStand = {"0123*", "0123*", "=", "0123456789", "0123456789;", ";"};
        String[] lines = {"", "31=7;", "31=78;*3=9;"};
        for (String line : lines) {
            for (int place = 0; place < ahead.length; place++) {
                String text = line + ahead[place];
                for (char sign = 33; sign <= 126; sign++) {
                    boolean stands = mayStand[place].indexOf(sign) >= 0;
                    boolean whole = place == 3 || place == 4 && sign != ';';
                    faultOf(text + sign, !stands ? text.length() : whole ? NONE : text.length() + 1);
                }
            }
        }
    }

    private static void faultIsTheFirst() {
        EDGE.sentence("7: the place (from 0 on) of the first sign that can not stand there");
        faultOf("!!!!", 0);
        faultOf("0!!!", 1);
        faultOf("01=1;01=1;4", 10);
        faultOf("01=1;x1=1;4", 5);
        faultOf("01=100;4", 5);
        faultOf("~" + "0".repeat(49), 0);
        faultOf(TEN_LINES + "~", 49);
    }

    private static void faultIfMoreMustCome() {
        EDGE.sentence("7: the number of signs, if more must come");
        String text = "01=1;23=45;";
        int[] want = {0, 1, 2, 3, NONE, 5, 6, 7, 8, NONE, NONE, 11};
        for (int n = 0; n <= text.length(); n++) {
            faultOf(text.substring(0, n), want[n]);
        }
    }

    private static void faultOfFiftySigns() {
        EDGE.sentence("7: the number of signs, if more must come, of fifty too");
        faultOf(TEN_LINES + ";", 50);
        faultOf("01=10;".repeat(8) + "01", 50);
        EDGE.sentence("7: NONE of fifty signs that are LINES");
        faultOf(TEN_LINES + "1", NONE);
    }

    // ---- promise 8

    private static void lawRefused() {
        EDGE.sentence("8: NO: there is a FAULT (nothing changes)");
        EDGE.refused(CopiedSkins.NO, NOT_FULL, "law");
        CopiedSkins x = withLaw("01=1;12=2");
        Due.say(x, "01=7;4");
        EDGE.answers(x, CopiedSkins.NO, "law");
        EDGE.answers(x, 6, "told", 1);
        EDGE.answers(x, 5, "fault");
        EDGE.answers(x, 2, "told", 2);
        EDGE.answers(x, 1, "slip", 0, 1);
        EDGE.answers(x, 2, "slip", 1, 2);
    }

    private static void lawOfNoSigns() {
        EDGE.sentence("8: NO: LINES, one at least");
        EDGE.answers(new CopiedSkins(), CopiedSkins.NO, "law");
        CopiedSkins x = withLaw("01=1");
        EDGE.answers(x, CopiedSkins.NO, "law");
        EDGE.answers(x, 1, "told", 2);
        EDGE.answers(x, 1, "slip", 0, 1);
    }

    private static void lawEmptiesTheSigns() {
        EDGE.sentence("8: they are empty then");
        CopiedSkins x = withLaw("01=1");
        EDGE.answers(x, 0, "told", 1);
        EDGE.answers(x, 0, "wipe");
        CopiedSkins full = Scene.FULL.make();
        EDGE.answers(full, 10, "law");
        EDGE.answers(full, 0, "told", 1);
    }

    private static void lawOfOneLineAndOfTen() {
        EDGE.sentence("8: LINES: one");
        CopiedSkins x = new CopiedSkins();
        Due.say(x, "30=8");
        EDGE.answers(x, 1, "law");
        EDGE.answers(x, 8, "slip", 3, 0);
        EDGE.sentence("8: LINES: ten, each counts");
        Due.say(x, TEN_LINES);
        EDGE.answers(x, 10, "law");
        EDGE.answers(x, 10, "told", 2);
        int[][] want = {{0, 1, 2, 3}, {4, 0, 5, 6}, {7, 8, 0, 9}, {0, 10, 10, 0}};
        for (int a = 0; a < 4; a++) {
            for (int b = 0; b < 4; b++) {
                EDGE.answers(x, want[a][b], "slip", a, b);
            }
        }
        EDGE.sentence("8: LINES: of fifty signs");
        Due.say(x, "01=1;".repeat(9) + "23=98");
        EDGE.answers(x, 10, "law");
        EDGE.answers(x, 98, "slip", 2, 3);
    }

    private static void lawIsTheNewestAlone() {
        EDGE.sentence("8: THE LAW is the signs', nothing of an earlier one");
        CopiedSkins x = withLaw(TEN_LINES);
        Due.say(x, "23=7");
        EDGE.answers(x, 1, "law");
        EDGE.answers(x, 1, "told", 2);
        for (int a = 0; a < 4; a++) {
            for (int b = 0; b < 4; b++) {
                EDGE.answers(x, a == b ? 0 : a == 2 && b == 3 ? 7 : 10, "slip", a, b);
            }
        }
    }

    // ---- promise 9

    private static void slipKinds() {
        EDGE.sentence("9: SLIP (0 to 3 each); OUTSIDE");
        EDGE.bounds(OUTSIDE, ALL, 0, 0, 3, "slip", 0, 0);
        EDGE.bounds(OUTSIDE, ALL, 1, 0, 3, "slip", 0, 0);
        EDGE.refused(OUTSIDE, ALL, "slip", 4, 4);
        EDGE.refused(OUTSIDE, ALL, "slip", -1, -1);
    }

    private static void slipOfAlikeOnes() {
        EDGE.sentence("9: 0, if they are alike");
        CopiedSkins x = withLaw("00=1;11=2;22=3;33=4;**=99");
        for (int kind = 0; kind < 4; kind++) {
            EDGE.answers(x, 0, "slip", kind, kind);
        }
        EDGE.answers(x, 99, "slip", 0, 3);
    }

    private static void slipFirstLineThatFits() {
        EDGE.sentence("9: else what the first LINE says that fits");
        CopiedSkins first = withLaw("01=1;0*=2;*1=3;**=4");
        EDGE.answers(first, 1, "slip", 0, 1);
        EDGE.answers(first, 2, "slip", 0, 3);
        EDGE.answers(first, 3, "slip", 3, 1);
        EDGE.answers(first, 4, "slip", 3, 0);
        CopiedSkins hidden = withLaw("**=4;*1=3;0*=2;01=1");
        EDGE.answers(hidden, 4, "slip", 0, 1);
        CopiedSkins twice = withLaw("01=0;01=5");
        EDGE.answers(twice, 0, "slip", 0, 1);
    }

    private static void slipTenIfNoneFits() {
        EDGE.sentence("9: 10, if none does");
        CopiedSkins x = withLaw("01=1");
        EDGE.answers(x, 10, "slip", 1, 0);
        EDGE.answers(x, 10, "slip", 0, 2);
        EDGE.answers(x, 10, "slip", 2, 1);
    }

    private static void slipOneOrTwoDigits() {
        EDGE.sentence("9: 1 or 2 digits");
        CopiedSkins x = withLaw("01=0;02=00;03=9;10=09;12=99;13=90;20=10");
        int[][] want = {{0, 0, 0, 9}, {9, 0, 99, 90}, {10, 10, 0, 10}};
        for (int a = 0; a < 3; a++) {
            for (int b = 0; b < 4; b++) {
                EDGE.answers(x, want[a][b], "slip", a, b);
            }
        }
    }

    // ---- promise 10

    private static void costDrawings() {
        EDGE.sentence("10: COST of a DRAWING (0 to 65535) to another one; OUTSIDE");
        EDGE.bounds(OUTSIDE, ALL, 0, 0, 65535, "cost", 0, 0);
        EDGE.bounds(OUTSIDE, ALL, 1, 0, 65535, "cost", 0, 0);
        EDGE.refused(OUTSIDE, ALL, "cost", 65536, 65536);
        EDGE.refused(OUTSIDE, ALL, "cost", -1, -1);
    }

    private static void costLeastAndGreatest() {
        EDGE.sentence("10: all SLIPS of STROKES: none, and eight of 99");
        CopiedSkins x = withLaw("**=99");
        EDGE.answers(x, 0, "cost", 0, 0);
        EDGE.answers(x, 0, "cost", 65535, 65535);
        EDGE.answers(x, 792, "cost", 0, 65535);
        EDGE.answers(x, 792, "cost", 65535, 0);
        CopiedSkins free = withLaw("**=0");
        EDGE.answers(free, 0, "cost", 0, 65535);
    }

    private static void costIsFromTheOneToTheOther() {
        EDGE.sentence("10: SLIPS of STROKES from that of the one to that of the other one");
        CopiedSkins x = withLaw("03=1;30=2");
        EDGE.answers(x, 8, "cost", 0, 65535);
        EDGE.answers(x, 16, "cost", 65535, 0);
    }

    private static void costStrokeByStroke() {
        EDGE.sentence("10: a DRAWING is these as digits to four, STROKE 0 the highest");
        CopiedSkins x = withLaw("01=1;02=20;03=31");
        int[] slips = {0, 1, 20, 31};
        for (int s = 0; s < 8; s++) {
            for (int kind = 0; kind < 4; kind++) {
                int drawing = kind << 14 - 2 * s;
                EDGE.answers(x, slips[kind], "cost", 0, drawing);
                EDGE.answers(x, kind == 0 ? 0 : 1 << s, "hides", drawing, 0);
            }
        }
    }

    // ---- promise 31

    private static void toldOutside() {
        EDGE.sentence("31: 0 PICTURES to 8 what set() tells; OUTSIDE");
        EDGE.bounds(OUTSIDE, ALL, 0, 0, 8, "told", 0);
    }

    private static void toldEmptyAndFull() {
        EDGE.sentence("31: what is told of an empty and of a full object");
        int[] ofEmpty = {0, 0, 0, 0, 0, 20, 99, 10, 10};
        int[] ofFull = {6, 50, 4, 8, 16, 21, 95, 9, 5};
        CopiedSkins empty = Scene.EMPTY.make();
        CopiedSkins full = Scene.FULL.make();
        for (int what = 0; what < 9; what++) {
            EDGE.answers(empty, ofEmpty[what], "told", what);
            EDGE.answers(full, ofFull[what], "told", what);
        }
    }
}
