import java.nio.charset.StandardCharsets;
import java.util.ArrayList;
import java.util.List;
import java.util.NoSuchElementException;
import java.util.Random;

/** Random runs of calls, as long as an object is used, on AreaSetter and the plain model: all answers must be alike. */
public final class ModelTests {
    private static final int RUNS = 2000;
    /** More calls than one step of a run takes; as many are left for the last look. */
    private static final int LAST_LOOK = 70;
    private static final int LOOKS = 12;
    private static final int[] ODD = {-1, 0, 1, 39, 40, 100, 999, 1000, 3001, Integer.MIN_VALUE, Integer.MAX_VALUE};
    private static final String[] HOWS = {"slice", "rows", "cuts", "best"};

    private final Random random;
    private final Used setter = new Used();
    private final AreaModel model = new AreaModel();
    private final List<String> log = new ArrayList<>();
    private final int style;
    /** One TREE for the whole run, and more DRAWINGS of it than are kept. */
    private final boolean isLongLived;

    private ModelTests(int seed) {
        random = new Random(seed);
        style = seed % 4;
        isLongLived = seed % 8 > 4;
    }

    public static void main(String[] args) {
        int runs = args.length > 1 ? Integer.parseInt(args[1]) : RUNS;
        for (int seed = 0; seed < runs; seed++) {
            ModelTests run = new ModelTests(seed);
            if (!run.go()) {
                System.out.println("run of seed " + seed + ": " + String.join("; ", run.log));
                System.exit(1);
            }
        }
        System.out.println("model: " + runs + " runs, all answers alike");
    }

    private boolean go() {
        boolean isFirst = true;
        while (setter.left() >= LAST_LOOK) {
            int pick = random.nextInt(100);
            boolean alike;
            if (isFirst || pick < (isLongLived ? 0 : 2) || model.count(0) == 0 && pick < 50) {
                alike = tellTree(random.nextInt(5) == 0);
            } else if (pick < 10) {
                alike = drawAndLook();
            } else {
                alike = oneCall(pick);
            }
            if (!alike) {
                return false;
            }
            isFirst = false;
        }
        return look(setter.left());
    }

    private boolean same(String call, long got, long want) {
        log.add(call + "=" + want);
        if (got != want) {
            log.add("but " + got);
            return false;
        }
        return true;
    }

    private boolean same(String call, boolean got, boolean want) {
        return same(call, got ? 1 : 0, want ? 1 : 0);
    }

    private int any(int below) {
        return random.nextInt(25) == 0 ? ODD[random.nextInt(ODD.length)] : random.nextInt(below);
    }

    private int boxNumber() {
        return any(Math.max(1, model.count(0)));
    }

    private int groupNumber() {
        for (int i = 0; i < 20; i++) {
            int b = boxNumber();
            if (model.about(b, 1) == 1) {
                return b;
            }
        }
        return boxNumber();
    }

    private int tick() {
        return random.nextBoolean() ? any(10) : any(1000);
    }

    private boolean feedText(String text) {
        byte[] bytes = text.getBytes(StandardCharsets.ISO_8859_1);
        int length = model.count(4);
        for (int i = 0; i < bytes.length; i += 20) {
            int[] five = new int[5];
            for (int k = 0; k < 20; k++) {
                int c = i + k < bytes.length ? bytes[i + k] & 255 : 32;
                five[k / 4] = five[k / 4] << 8 | c;
            }
            if (!same("feed", setter.feed(five[0], five[1], five[2], five[3], five[4]), model.feed(five))) {
                return false;
            }
        }
        int n = random.nextInt(30) == 0 ? any(1001) : length + bytes.length;
        return same("end(" + n + ")", setter.end(n), model.end(n));
    }

    private boolean tellTree(boolean spoiled) {
        StringBuilder text = new StringBuilder();
        names = 0;
        writeGroup(text, 0, random.nextInt(3) == 0 ? 9 : 3 + random.nextInt(6));
        if (spoiled) {
            for (int i = random.nextInt(3); i >= 0; i--) {
                spoil(text);
            }
        }
        String s = text.length() > 1000 ? text.substring(0, 1000) : text.toString();
        log.add("\"" + s + "\"");
        return feedText(s) && same("tree", setter.tree(), model.tree())
                && same("place", setter.place(), model.place());
    }

    private int names;

    private String nextName() {
        names++;
        if (random.nextInt(150) == 0) {
            return "b";
        }
        StringBuilder s = new StringBuilder();
        int n = names;
        do {
            s.append((char) ('a' + n % 26));
            n /= 26;
        } while (n > 0);
        int longer = random.nextInt(100) == 0 ? 9 : random.nextInt(6);
        while (s.length() < longer) {
            s.append('q');
        }
        return s.toString();
    }

    private void blank(StringBuilder text, boolean needed) {
        if (needed || random.nextInt(6) == 0) {
            text.append(random.nextInt(5) == 0 ? '\n' : ' ');
        }
    }

    private void writeGroup(StringBuilder text, int depth, int most) {
        text.append(nextName());
        blank(text, true);
        text.append(style == 0 ? "best" : HOWS[random.nextInt(4)]);
        blank(text, false);
        if (random.nextInt(3) == 0) {
            blank(text, true);
            text.append("sorted");
            blank(text, false);
        }
        text.append('(');
        int n = 1 + random.nextInt(most);
        for (int i = 0; i < n; i++) {
            if (i > 0) {
                text.append(',');
            }
            blank(text, false);
            boolean deeper = depth < 7 && names < 41 && random.nextInt(10) < (depth == 0 ? 4 : style == 1 ? 5 : 2);
            if (deeper) {
                writeGroup(text, depth + 1, style == 1 ? 3 : most);
            } else {
                text.append(nextName());
                blank(text, false);
                text.append(someSize());
            }
            blank(text, false);
        }
        text.append(')');
    }

    private int someSize() {
        switch (random.nextInt(6)) {
            case 0:
                return 0;
            case 1:
                return 1 + random.nextInt(4);
            case 2:
                return random.nextInt(1000000);
            default:
                return random.nextInt(style == 2 ? 4 : 100);
        }
    }

    private void spoil(StringBuilder text) {
        String signs = "(), \nabz019AZ\t{.-sorted";
        char c = random.nextInt(8) == 0 ? (char) random.nextInt(256) : signs.charAt(random.nextInt(signs.length()));
        int at = random.nextInt(text.length() + 1);
        int way = random.nextInt(4);
        if (way == 0) {
            text.insert(at, c);
        } else if (way == 1 && at < text.length()) {
            text.deleteCharAt(at);
        } else if (way == 2 && at < text.length()) {
            text.setCharAt(at, c);
        } else {
            text.setLength(Math.max(1, at));
        }
    }

    private boolean drawAndLook() {
        int tick = tick();
        if (!same("draw(" + tick + ")", setter.draw(tick), model.draw(tick))) {
            return false;
        }
        return look(LOOKS) && same("count(5)", setter.count(5), model.count(5))
                && same("count(6)", setter.count(6), model.count(6));
    }

    /** Some answers about the latest DRAWING, each by one call. */
    private boolean look(int many) {
        for (int i = 0; i < many; i++) {
            int what = random.nextInt(10) - 1;
            boolean alike = random.nextInt(4) == 0 ? lookAtRest(groupNumber(), what) : lookAtBox(boxNumber(), what);
            if (!alike) {
                return false;
            }
        }
        return true;
    }

    private boolean lookAtBox(int b, int what) {
        return same("box(" + b + ", " + what + ")", setter.box(b, what), model.box(b, what));
    }

    private boolean lookAtRest(int g, int what) {
        return same("restOf(" + g + ", " + what + ")", setter.restOf(g, what), model.restOf(g, what));
    }

    private boolean oneCall(int pick) {
        int b = boxNumber();
        int what = any(9);
        int t = tick();
        if (pick < 14) {
            int w = style == 3 ? any(40) : any(3001);
            int h = style == 3 ? any(40) : any(900);
            return same("sheet(" + w + ", " + h + ")", setter.sheet(w, h), model.sheet(w, h));
        } else if (pick < 17) {
            int v = random.nextBoolean() ? any(1001) : any(200);
            return same("price(" + v + ")", setter.price(v), model.price(v));
        } else if (pick < 27) {
            int v = random.nextInt(20) == 0 ? 999999 + random.nextInt(2) : someSize();
            return same("size(" + b + ", " + t + ", " + v + ")", setter.size(b, t, v), model.size(b, t, v));
        } else if (pick < 33) {
            int g = groupNumber();
            int limit = any(1000);
            boolean open = random.nextInt(4) == 0;
            return same("rest(" + g + ", " + limit + ", " + open + ")", setter.rest(g, limit, open),
                    model.rest(g, limit, open));
        } else if (pick < 45) {
            int x = any(700);
            int y = any(450);
            return same("under(" + x + ", " + y + ")", setter.under(x, y), model.under(x, y));
        } else if (pick < 50) {
            return same("letters(" + b + ")", setter.letters(b), model.letters(b));
        } else if (pick < 57) {
            return same("moved(" + b + ")", setter.moved(b), model.moved(b));
        } else if (pick < 68) {
            int back = random.nextInt(4) == 0 ? 48 + random.nextInt(5) : random.nextInt(6);
            return pastCall(model.count(3) - back, b, any(6));
        } else if (pick < 74) {
            return same("about(" + b + ", " + what + ")", setter.about(b, what), model.about(b, what));
        } else if (pick < 78) {
            return same("letter(" + b + ", " + what + ")", setter.letter(b, what), model.letter(b, what));
        } else if (pick < 81) {
            return askName(b);
        } else if (pick < 88) {
            return same("sizeIn(" + b + ", " + t + ")", setter.sizeIn(b, t), model.sizeIn(b, t));
        } else if (pick < 93) {
            return same("count(" + what + ")", setter.count(what), model.count(what));
        } else if (pick < 94) {
            return feedText("slice");
        }
        return same("draw(" + t + ")", setter.draw(t), model.draw(t));
    }

    private boolean pastCall(int d, int b, int what) {
        long got;
        long want;
        try {
            got = setter.past(d, b, what);
        } catch (NoSuchElementException e) {
            got = Long.MIN_VALUE;
        }
        try {
            want = model.past(d, b, what);
        } catch (NoSuchElementException e) {
            want = Long.MIN_VALUE;
        }
        return same("past(" + d + ", " + b + ", " + what + ")", got, want);
    }

    private boolean askName(int b) {
        StringBuilder name = new StringBuilder();
        for (int i = 0; model.letter(b, i) != -1; i++) {
            name.append((char) model.letter(b, i));
        }
        if (random.nextInt(4) == 0) {
            name.append(random.nextBoolean() ? ' ' : 'q');
        }
        return feedText(name.toString()) && same("named", setter.named(), model.named());
    }
}
