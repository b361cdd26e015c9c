/** Counts answers that are not as due, prints them, and ends a test. */
final class Due {
    private int wrong;
    private String sentence = "";

    /** The sentence of the document that the checks behind this are about: it is told with what is wrong. */
    void sentence(String words) {
        sentence = words + " | ";
    }

    void is(String what, int got, int want) {
        if (got != want) {
            wrong++;
            System.out.println(sentence + what + ": answered " + got + ", due is " + want);
        }
    }

    void holds(String what, boolean so) {
        if (!so) {
            wrong++;
            System.out.println(sentence + what + ": does not hold");
        }
    }

    void end() {
        if (wrong != 0) {
            System.out.println(wrong + " answers are not as due");
            System.exit(1);
        }
        System.out.println("all answers are as due");
    }

    /** Says a text, sign by sign. */
    static void say(CopiedSkins x, String text) {
        for (int i = 0; i < text.length(); i++) {
            x.say(text.charAt(i));
        }
    }

    /** Makes a text the law; answers what law() answers. */
    static int law(CopiedSkins x, String text) {
        x.wipe();
        say(x, text);
        return x.law();
    }

    /** A drawing by its eight strokes, stroke 0 first. */
    static int drawing(String strokes) {
        return Integer.parseInt(strokes, 4);
    }
}
