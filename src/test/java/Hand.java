import java.nio.charset.StandardCharsets;
import java.util.NoSuchElementException;

/** What tests told by hand have in common: texts are fed, answers are held against those that are due. */
final class Hand {
    /** Stands for an answer that is a NoSuchElementException. */
    static final int THROWN = Integer.MIN_VALUE;

    private int wrong = 0;
    private int asked = 0;

    void due(String what, long got, long want) {
        asked++;
        if (got != want) {
            wrong++;
            System.out.println(what + " answered " + got + ", due is " + want);
        }
    }

    void due(String what, boolean got, boolean want) {
        due(what, got ? 1 : 0, want ? 1 : 0);
    }

    /** x, y, wide, high of a BOX in the latest DRAWING. */
    void dueBox(AreaSetter s, int b, int... want) {
        for (int what = 0; what < 4; what++) {
            due("box(" + b + ", " + what + ")", s.box(b, what), want[what]);
        }
    }

    void dueRest(AreaSetter s, int b, int... want) {
        for (int what = 0; what < 4; what++) {
            due("restOf(" + b + ", " + what + ")", s.restOf(b, what), want[what]);
        }
    }

    void duePast(AreaSetter s, int d, int b, int what, int want) {
        due("past(" + d + ", " + b + ", " + what + ")", past(s, d, b, what), want);
    }

    /** Tells how it went, and ends with exit code 1 if something was wrong. */
    void close(String name) {
        System.out.println(name + ": " + asked + " answers, " + wrong + " not as due");
        if (wrong > 0 || asked == 0) {
            System.exit(1);
        }
    }

    static int past(AreaSetter s, int d, int b, int what) {
        try {
            return s.past(d, b, what);
        } catch (NoSuchElementException e) {
            return THROWN;
        }
    }

    /** Puts a text behind the TAPE; what is left of the last twenty bytes is cut off. */
    static void put(AreaSetter s, String text) {
        byte[] bytes = text.getBytes(StandardCharsets.ISO_8859_1);
        int length = s.count(4) + bytes.length;
        for (int i = 0; i < bytes.length; i += 20) {
            int[] five = new int[5];
            for (int k = 0; k < 20; k++) {
                int c = i + k < bytes.length ? bytes[i + k] & 255 : '?';
                five[k / 4] = five[k / 4] << 8 | c;
            }
            s.feed(five[0], five[1], five[2], five[3], five[4]);
        }
        s.end(length);
    }

    static int tree(AreaSetter s, String text) {
        put(s, text);
        return s.tree();
    }

    static int named(AreaSetter s, String text) {
        put(s, text);
        return s.named();
    }

    /** An object with a SHEET and a TREE. */
    static AreaSetter with(int wide, int high, String text) {
        AreaSetter s = new AreaSetter();
        if (!s.sheet(wide, high) || tree(s, text) < 2) {
            throw new IllegalArgumentException(text);
        }
        return s;
    }

    /** The same with a DRAWING in TICK 0. */
    static AreaSetter drawn(int wide, int high, String text) {
        AreaSetter s = with(wide, high, text);
        s.draw(0);
        return s;
    }
}
