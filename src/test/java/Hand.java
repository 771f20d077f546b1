import java.nio.charset.StandardCharsets;
import java.util.Arrays;
import java.util.NoSuchElementException;

/** What tests told by hand have in common: texts are fed, answers are held against those that are due. */
final class Hand {
    /** Stands for an answer that is a NoSuchElementException. */
    static final int THROWN = Integer.MIN_VALUE;

    private final boolean isQuiet;
    private int wrong = 0;
    private int asked = 0;

    Hand() {
        this(false);
    }

    /** A quiet one counts what is wrong, and prints nothing. */
    Hand(boolean isQuiet) {
        this.isQuiet = isQuiet;
    }

    int wrong() {
        return wrong;
    }

    int asked() {
        return asked;
    }

    void due(String what, long got, long want) {
        asked++;
        if (got != want) {
            wrong++;
            if (!isQuiet) {
                System.out.println(what + " answered " + got + ", due is " + want);
            }
        }
    }

    void due(String what, boolean got, boolean want) {
        due(what, got ? 1 : 0, want ? 1 : 0);
    }

    /** x, y, wide, high of a BOX in the latest DRAWING. */
    void dueBox(Used s, int b, int... want) {
        for (int what = 0; what < 4; what++) {
            due("box(" + b + ", " + what + ")", s.box(b, what), want[what]);
        }
    }

    void dueRest(Used s, int b, int... want) {
        for (int what = 0; what < 4; what++) {
            due("restOf(" + b + ", " + what + ")", s.restOf(b, what), want[what]);
        }
    }

    void duePast(Used s, int d, int b, int what, int want) {
        due("past(" + d + ", " + b + ", " + what + ")", past(s, d, b, what), want);
    }

    /** That a TEXT is read as so many BOXES, or has a FAULT (-3 to -5) at a place. */
    void dueText(String text, int answer, int place) {
        Used s = new Used();
        String shown = text.replace("\n", "\\n");
        due("tree of \"" + shown + "\"", tree(s, text), answer);
        due("place in \"" + shown + "\"", s.place(), place);
    }

    /** How a GROUP was laid, and the WORST of its ITEMS. */
    void dueLaid(Used s, int b, int how, int worst) {
        due("laid " + b, s.box(b, 6), how);
        due("worst " + b, s.box(b, 7), worst);
    }

    /** Tells how it went, and ends with exit code 1 if something was wrong. */
    void close(String name) {
        System.out.println(name + ": " + asked + " answers, " + wrong + " not as due");
        if (wrong > 0 || asked == 0) {
            System.exit(1);
        }
    }

    /** Numbers that are not from one to another, some of them like a right one if bits of them are lost. */
    static int[] outside(int least, int most) {
        int middle = least + (most - least) / 2;
        int[] all = {least - 1, most + 1, Integer.MIN_VALUE, Integer.MAX_VALUE, Integer.MIN_VALUE + middle,
            middle + 65536, middle - 65536, most + 65536, middle + (1 << 24), -most - 1};
        int many = 0;
        int[] found = new int[all.length];
        for (int v : all) {
            if (v < least || v > most) {
                found[many] = v;
                many++;
            }
        }
        return Arrays.copyOf(found, many);
    }

    static int past(Used s, int d, int b, int what) {
        try {
            return s.past(d, b, what);
        } catch (NoSuchElementException e) {
            return THROWN;
        }
    }

    /** Puts a text behind the TAPE; what is left of the last twenty bytes is cut off. */
    static void put(Used s, String text) {
        byte[] bytes = text.getBytes(StandardCharsets.ISO_8859_1);
        int length = s.count(4) + bytes.length;
        for (int i = 0; i < bytes.length; i += 20) {
            int[] five = new int[5];
            for (int k = 0; k < 20; k++) {
                int c = i + k < bytes.length ? bytes[i + k] & 255 : '?';
                five[k / 4] = five[k / 4] << 8 | c;
            }
            s.feed(five[0], five[1], five[2], five[3], five[4]);
        }
        s.end(length);
    }

    static int tree(Used s, String text) {
        put(s, text);
        return s.tree();
    }

    static int named(Used s, String text) {
        put(s, text);
        return s.named();
    }

    /** An object with a SHEET and a TREE. */
    static Used with(int wide, int high, String text) {
        Used s = new Used();
        if (!s.sheet(wide, high) || tree(s, text) < 2) {
            throw new IllegalArgumentException(text);
        }
        return s;
    }

    /** The same with a DRAWING in TICK 0. */
    static Used drawn(int wide, int high, String text) {
        Used s = with(wide, high, text);
        s.draw(0);
        return s;
    }
}
