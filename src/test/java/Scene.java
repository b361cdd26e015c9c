import java.util.List;

/** Objects on which calls are refused: one that is new, one that is half full, one that is full. */
enum Scene {
    EMPTY {
        @Override
        void fill(CopiedSkins x) {
            // nothing: a new object
        }
    },
    /** Three pictures (1 is a sheet), three signs that are no law yet, three men, four meetings, image 0. */
    HALF {
        @Override
        void fill(CopiedSkins x) {
            x.set(0, 33);
            x.picture(27, 5, 60);
            x.spread(1, 2, 3);
            x.image(0);
            Due.law(x, "01=3;1*=4;*2=12");
            x.picture(57, 10, 50);
            x.picture(39, 40, 45);
            x.width(0, 85);
            x.width(2, 30);
            setAll(x, 17, 90, 8, 6);
            x.spread(0, 8, 12);
            x.spread(1, 1, 2);
            x.hide(5, true, 7);
            x.hide(6, false, 24);
            Due.say(x, "23=");
            sit(x, 3, new int[] {0, 1, 2, 0}, 47);
            x.sick(0, 49);
            x.sick(1, 50);
            x.sick(2, 53);
        }
    },
    /** Six pictures, fifty signs, eight men, sixteen meetings, both images. */
    FULL {
        @Override
        void fill(CopiedSkins x) {
            x.picture(27, 0, 50);
            x.picture(57, 5, 60);
            x.width(0, 85);
            Due.law(x, "12=6");
            x.hide(1, false, 3);
            x.image(0);
            x.set(0, 15);
            x.picture(39, 0, 99);
            x.hide(5, true, 7);
            x.spread(1, 1, 2);
            x.image(1);
            x.picture(30, 40, 45);
            x.picture(27, 70, 80);
            x.picture(108, 90, 99);
            x.width(3, 40);
            x.spread(0, 9, 11);
            setAll(x, 21, 95, 9, 5);
            Due.law(x, "13=1;31=6;*2=4;2*=7");
            Due.say(x, "01=1;".repeat(9) + "23=98");
            sit(x, 8, new int[] {0, 1, 2, 3, 4, 0, 5, 1, 6, 7, 2, 0, 3, 3, 1, 4}, 35);
            for (int m = 0; m < 6; m++) {
                x.sick(m, 44 + 2 * m);
            }
        }
    };

    private List<String> looks;

    abstract void fill(CopiedSkins x);

    CopiedSkins make() {
        CopiedSkins x = new CopiedSkins();
        fill(x);
        return x;
    }

    /** What an object of this scene answers if nothing else was called on it. */
    List<String> looks() {
        if (looks == null) {
            looks = Looks.at(make());
        }
        return looks;
    }

    static void setAll(CopiedSkins x, int... values) {
        for (int which = 0; which < values.length; which++) {
            x.set(which, values[which]);
        }
    }

    /** So many men, who sit in this order, the first on a day, each other one a day later. */
    private static void sit(CopiedSkins x, int men, int[] order, int day) {
        for (int m = 0; m < men; m++) {
            x.man();
        }
        for (int k = 0; k < order.length; k++) {
            x.meet(order[k], day + k);
        }
    }
}
