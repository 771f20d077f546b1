import java.util.NoSuchElementException;

/**
 * A setter of area drawings: trees of sizes, read from a text, are drawn as boxes within boxes whose areas are as the
 * sizes. The words of the document (TREE, ITEM, REST, LAYING, ..) are used here as it defines them.
 *
 * <p>All rows are made once, with the object, and used again by every call: no call makes an object.
 */
public final class AreaSetter {
    /** There is none. */
    public static final int NONE = -1;

    private static final int MOST_BYTES = 1000;
    private static final int BYTES_FED = 20;
    private static final int MOST_BOXES = 40;
    private static final int MOST_CHILDREN = 8;
    private static final int MOST_GROUPS_AROUND = 5;
    private static final int MOST_LETTERS = 8;
    private static final int MOST_DIGITS = 6;
    private static final int MOST_TICK = 999;
    private static final int MOST_SIZE = 999999;
    private static final int MOST_CHANGES = 100;
    private static final int MOST_LIMIT = 999;
    private static final int MOST_SIDE = 3000;
    private static final int MOST_PRICE = 1000;
    private static final int MOST_KEPT = 50;

    private static final int SLICE = 0;
    private static final int ROWS = 1;
    private static final int CUTS = 2;
    private static final int BEST = 3;

    private static final int FLAT_SHAPE = 1000000;
    private static final int LETTER_WIDE = 6;
    private static final int NAME_EDGES = 2;
    private static final int NAME_HIGH = 10;
    private static final int REST_MARK = 100;

    private final Reader reader = new Reader();
    private final Tape tape = reader.tape;
    private final Changes changes = new Changes();
    private final Drawings drawings = new Drawings();
    private final Layer layer = new Layer();
    private final int[] sizesNow = new int[MOST_BOXES];
    /** The TREE there is; it has no BOXES before the first one is read. */
    private Tree kept = new Tree();
    private int sheetWide = 600;
    private int sheetHigh = 400;

    public AreaSetter() {
    }

    public boolean sheet(int wide, int high) {
        if (!isFrom(1, MOST_SIDE, wide) || !isFrom(1, MOST_SIDE, high)) {
            return false;
        }
        sheetWide = wide;
        sheetHigh = high;
        return true;
    }

    public boolean price(int v) {
        if (!isFrom(0, MOST_PRICE, v)) {
            return false;
        }
        layer.moveCost = v;
        return true;
    }

    public int feed(int a, int b, int c, int d, int e) {
        if (tape.length > MOST_BYTES - BYTES_FED) {
            return NONE;
        }
        tape.add(a);
        tape.add(b);
        tape.add(c);
        tape.add(d);
        tape.add(e);
        return tape.length;
    }

    public int end(int n) {
        if (!isFrom(0, tape.length, n)) {
            return NONE;
        }
        tape.length = n;
        return n;
    }

    public int tree() {
        int fault = reader.read();
        tape.length = 0;
        if (fault != Reader.NO_FAULT) {
            return -fault - 2;
        }
        Tree former = kept;
        kept = reader.tree;
        reader.tree = former;
        changes.many = 0;
        drawings.made = 0;
        return kept.boxes;
    }

    public int place() {
        return reader.faultAt;
    }

    public int size(int box, int tick, int v) {
        if (!kept.isLeaf(box) || !isTick(tick) || !isFrom(0, MOST_SIZE, v)) {
            return NONE;
        }
        return changes.add(box, tick, v);
    }

    public boolean rest(int box, int limit, boolean open) {
        if (!kept.isGroup(box) || !isFrom(0, MOST_LIMIT, limit)) {
            return false;
        }
        kept.limit[box] = limit;
        kept.open[box] = open;
        return true;
    }

    public int draw(int tick) {
        if (kept.boxes == 0 || !isTick(tick)) {
            return NONE;
        }
        changes.tellSizes(kept, tick, sizesNow);
        drawings.begin(tick, kept.boxes, sizesNow);
        drawings.show(0, 0, 0, sheetWide, sheetHigh);
        // a GROUP is met ahead of all within it, so its RECTANGLE is there when its turn comes
        for (int b = 0; b < kept.boxes; b++) {
            if (kept.isGroup(b)) {
                layer.layGroup(kept, b, drawings);
            }
        }
        return drawings.made - 1;
    }

    public int box(int b, int what) {
        if (drawings.made == 0 || !kept.has(b)) {
            return NONE;
        }
        int cell = drawings.latestCell(b);
        if (what == Rectangles.SIZE) {
            return drawings.boxes.sizes[cell];
        }
        if (!drawings.shown[cell]) {
            return NONE;
        }
        if (what == 6 || what == 7) {
            if (!kept.isGroup(b)) {
                return NONE;
            }
            return what == 6 ? drawings.laid[b] : drawings.worst[b];
        }
        return drawings.boxes.tell(cell, what);
    }

    public int restOf(int b, int what) {
        if (drawings.made == 0 || !kept.isGroup(b) || drawings.together[b] == 0) {
            return NONE;
        }
        return what == 6 ? drawings.together[b] : drawings.rests.tell(b, what);
    }

    public int under(int x, int y) {
        if (drawings.made == 0) {
            return NONE;
        }
        int inner = NONE;
        // those that hold a point stand within one another, and the inner ones have the greater numbers
        for (int b = 0; b < kept.boxes; b++) {
            int cell = drawings.latestCell(b);
            if (drawings.shown[cell] && drawings.boxes.holds(cell, x, y)) {
                inner = b;
            }
        }
        if (inner != NONE && drawings.hasRest(kept, inner) && drawings.rests.holds(inner, x, y)) {
            return REST_MARK + inner;
        }
        return inner;
    }

    public int letters(int b) {
        if (drawings.made == 0 || !kept.has(b)) {
            return NONE;
        }
        int cell = drawings.latestCell(b);
        int room = drawings.boxes.wide[cell] - NAME_EDGES;
        if (!drawings.shown[cell] || drawings.boxes.high[cell] < NAME_HIGH || room < 0) {
            return 0;
        }
        return Math.min(kept.nameLength[b], room / LETTER_WIDE);
    }

    public int moved(int b) {
        if (drawings.made < 2 || !kept.has(b)) {
            return NONE;
        }
        int before = drawings.cell(drawings.made - 2, b);
        int now = drawings.latestCell(b);
        if (!drawings.shown[before] || !drawings.shown[now]) {
            return NONE;
        }
        return drawings.boxes.distance(before, drawings.boxes, now);
    }

    public int past(int d, int b, int what) throws NoSuchElementException {
        if (!drawings.keeps(d) || !kept.has(b) || !isFrom(0, 5, what)) {
            throw new NoSuchElementException();
        }
        int cell = drawings.cell(d, b);
        if (what == 5) {
            return drawings.ticks[d % MOST_KEPT];
        }
        if (what != Rectangles.SIZE && !drawings.shown[cell]) {
            throw new NoSuchElementException();
        }
        return drawings.boxes.tell(cell, what);
    }

    public int about(int b, int what) {
        if (!kept.has(b)) {
            return NONE;
        }
        switch (what) {
            case 0:
                return kept.parent[b];
            case 1:
                return kept.isGroup(b) ? 1 : 0;
            case 2:
                return kept.children[b];
            case 3:
                return kept.nameLength[b];
            case 4:
                return kept.groupsAround[b];
            default:
                return kept.isGroup(b) ? aboutGroup(b, what) : NONE;
        }
    }

    public int letter(int b, int i) {
        return kept.has(b) && i >= 0 && i < kept.nameLength[b] ? kept.nameByte(b, i) : NONE;
    }

    public int named() {
        int found = kept.find(tape, 0, tape.length);
        tape.length = 0;
        return found;
    }

    public int sizeIn(int b, int tick) {
        if (!kept.has(b) || !isTick(tick)) {
            return NONE;
        }
        changes.tellSizes(kept, tick, sizesNow);
        return sizesNow[b];
    }

    public int count(int what) {
        switch (what) {
            case 0:
                return kept.boxes;
            case 1:
                return kept.groups;
            case 2:
                return changes.many;
            case 3:
                return drawings.made;
            case 4:
                return tape.length;
            case 5:
                return drawings.countShown(kept);
            case 6:
                return drawings.greatestWorst(kept);
            default:
                return NONE;
        }
    }

    private int aboutGroup(int b, int what) {
        switch (what) {
            case 5:
                return kept.how[b];
            case 6:
                return kept.sorted[b] ? 1 : 0;
            case 7:
                return kept.limit[b];
            case 8:
                return kept.open[b] ? 1 : 0;
            default:
                return NONE;
        }
    }

    private static boolean isFrom(int least, int most, int v) {
        return v >= least && v <= most;
    }

    private static boolean isTick(int tick) {
        return isFrom(0, MOST_TICK, tick);
    }

    /** SHAPE of an ITEM of a SIZE; it does not matter which side is called wide. */
    private static int shapeOf(int itemSize, int wide, int high) {
        if (itemSize == 0) {
            return 0;
        }
        int lesser = wide < high ? wide : high;
        int greater = wide < high ? high : wide;
        return lesser <= 0 ? FLAT_SHAPE : greater * 1000 / lesser;
    }

    /** Of a length the share of some SIZES among others together (cut); 0 if those are 0. */
    private static int share(int length, int some, int all) {
        return all <= 0 ? 0 : (int) ((long) length * some / all);
    }

    /** The bytes that a TEXT or a NAME is told with. */
    private static final class Tape {
        int length = 0;
        private final byte[] bytes = new byte[MOST_BYTES];

        void add(int number) {
            if (length > MOST_BYTES - 4) {
                return;
            }
            bytes[length] = (byte) (number >> 24);
            bytes[length + 1] = (byte) (number >> 16);
            bytes[length + 2] = (byte) (number >> 8);
            bytes[length + 3] = (byte) number;
            length += 4;
        }

        /** A byte, 0 to 255; NONE behind the last one. */
        int byteAt(int i) {
            return i >= 0 && i < length ? bytes[i] & 255 : NONE;
        }

        /** Whether the bytes of a stretch are those of a text. */
        boolean says(String text, int from, int to) {
            if (to - from != text.length()) {
                return false;
            }
            for (int i = 0; i < text.length(); i++) {
                if (byteAt(from + i) != text.charAt(i)) {
                    return false;
                }
            }
            return true;
        }
    }

    /** The BOXES of a TREE, numbered as they are met along its TEXT. */
    private static final class Tree {
        int boxes = 0;
        int groups = 0;
        final int[] parent = new int[MOST_BOXES];
        /** Of a GROUP its HOW, of a LEAF NONE. */
        final int[] how = new int[MOST_BOXES];
        final int[] children = new int[MOST_BOXES];
        final int[] groupsAround = new int[MOST_BOXES];
        /** Of a LEAF its SIZE in the TEXT, of a GROUP 0. */
        final int[] sizeTold = new int[MOST_BOXES];
        final int[] nameLength = new int[MOST_BOXES];
        final boolean[] sorted = new boolean[MOST_BOXES];
        final int[] limit = new int[MOST_BOXES];
        final boolean[] open = new boolean[MOST_BOXES];
        private final byte[] names = new byte[MOST_BOXES * MOST_LETTERS];

        boolean has(int b) {
            return b >= 0 && b < boxes;
        }

        boolean isGroup(int b) {
            return has(b) && how[b] != NONE;
        }

        boolean isLeaf(int b) {
            return has(b) && how[b] == NONE;
        }

        int nameByte(int b, int i) {
            return names[b * MOST_LETTERS + i] & 255;
        }

        /** A LEAF of SIZE 0 for now, behind all BOXES; what its TEXT goes on with makes more of it. */
        void addBox(int within, Tape tape, int from, int to) {
            if (boxes >= MOST_BOXES) {
                return;
            }
            int b = boxes;
            boxes++;
            parent[b] = within;
            how[b] = NONE;
            children[b] = 0;
            groupsAround[b] = 0;
            sizeTold[b] = 0;
            sorted[b] = false;
            limit[b] = 0;
            open[b] = false;
            if (has(within)) {
                children[within]++;
                groupsAround[b] = groupsAround[within] + 1;
            }
            nameLength[b] = Math.min(to - from, MOST_LETTERS);
            for (int i = 0; i < nameLength[b]; i++) {
                names[b * MOST_LETTERS + i] = (byte) tape.byteAt(from + i);
            }
        }

        /** The BOX whose NAME stands on a stretch of the TAPE. */
        int find(Tape tape, int from, int to) {
            for (int b = 0; b < boxes; b++) {
                if (nameLength[b] == to - from && isNamed(b, tape, from)) {
                    return b;
                }
            }
            return NONE;
        }

        private boolean isNamed(int b, Tape tape, int from) {
            for (int i = 0; i < nameLength[b]; i++) {
                if (nameByte(b, i) != tape.byteAt(from + i)) {
                    return false;
                }
            }
            return true;
        }
    }

    /** The TAPE, and how the TEXT on it is read: TOKEN by TOKEN, up to its end or its first FAULT. */
    private static final class Reader {
        static final int NO_FAULT = 0;
        private static final int NOT_TEXT = 1;
        private static final int TOO_MANY = 2;
        private static final int NAME_AGAIN = 3;

        private static final int NAME_DUE = 0;
        private static final int HOW_OR_NUMBER_DUE = 1;
        private static final int SORTED_OR_OPENING_DUE = 2;
        private static final int OPENING_DUE = 3;
        private static final int COMMA_OR_CLOSING_DUE = 4;
        private static final int END_DUE = 5;

        /** Kinds of TOKENS beside the SIGNS (and wrong bytes), which are their own kinds. */
        private static final int WORD = 'a';
        private static final int NUMBER = '0';

        final Tape tape = new Tape();
        /** Where a TEXT is read to: not the TREE there is, as one with a FAULT changes nothing. */
        Tree tree = new Tree();
        /** The place of the latest FAULT; NONE without one. */
        int faultAt = NONE;
        private int due;
        /** The GROUP whose CHILDREN are being read. */
        private int within;
        private int kind;
        private int from;
        private int to;

        int read() {
            tree.boxes = 0;
            tree.groups = 0;
            due = NAME_DUE;
            within = NONE;
            to = 0;
            faultAt = NONE;
            // a TOKEN has a byte at least, and the end comes behind the last one
            for (int i = 0; i <= MOST_BYTES; i++) {
                nextToken();
                int fault = take();
                if (fault != NO_FAULT) {
                    faultAt = from;
                    return fault;
                }
                if (kind == NONE) {
                    return NO_FAULT;
                }
            }
            return NO_FAULT;
        }

        private void nextToken() {
            from = to;
            while (from < tape.length && isBlank(tape.byteAt(from))) {
                from++;
            }
            kind = kindOf(tape.byteAt(from));
            to = from + 1;
            while (to < tape.length && (kind == WORD || kind == NUMBER) && kindOf(tape.byteAt(to)) == kind) {
                to++;
            }
        }

        private static boolean isBlank(int c) {
            return c == 32 || c == 10;
        }

        private static int kindOf(int c) {
            if (c >= 'a' && c <= 'z') {
                return WORD;
            }
            return c >= '0' && c <= '9' ? NUMBER : c;
        }

        /** Takes the TOKEN, if it is one that is due: the FAULT there is. */
        private int take() {
            switch (due) {
                case NAME_DUE:
                    return takeName();
                case HOW_OR_NUMBER_DUE:
                    // the first BOX is a GROUP
                    return kind == NUMBER && within != NONE ? takeNumber() : takeHow();
                case SORTED_OR_OPENING_DUE:
                    return isWord("sorted") ? takeSorted() : takeSign('(', NAME_DUE);
                case OPENING_DUE:
                    return takeSign('(', NAME_DUE);
                case COMMA_OR_CLOSING_DUE:
                    return kind == ')' ? takeClosing() : takeSign(',', NAME_DUE);
                default:
                    return kind == NONE ? NO_FAULT : NOT_TEXT;
            }
        }

        private int takeName() {
            if (kind != WORD || to - from > MOST_LETTERS || isWord("sorted") || howOfWord() != NONE) {
                return NOT_TEXT;
            }
            if (tree.boxes >= MOST_BOXES || tree.has(within) && tree.children[within] >= MOST_CHILDREN) {
                return TOO_MANY;
            }
            if (tree.find(tape, from, to) != NONE) {
                return NAME_AGAIN;
            }
            tree.addBox(within, tape, from, to);
            due = HOW_OR_NUMBER_DUE;
            return NO_FAULT;
        }

        private int takeNumber() {
            if (to - from > MOST_DIGITS) {
                return NOT_TEXT;
            }
            int number = 0;
            for (int i = from; i < to; i++) {
                number = number * 10 + tape.byteAt(i) - '0';
            }
            int leaf = tree.boxes - 1;
            if (tree.has(leaf)) {
                tree.sizeTold[leaf] = number;
            }
            due = COMMA_OR_CLOSING_DUE;
            return NO_FAULT;
        }

        private int takeHow() {
            int how = howOfWord();
            int group = tree.boxes - 1;
            if (how == NONE || !tree.has(group)) {
                return NOT_TEXT;
            }
            if (tree.groupsAround[group] > MOST_GROUPS_AROUND) {
                return TOO_MANY;
            }
            tree.how[group] = how;
            tree.groups++;
            within = group;
            due = SORTED_OR_OPENING_DUE;
            return NO_FAULT;
        }

        private int takeSorted() {
            if (tree.has(within)) {
                tree.sorted[within] = true;
            }
            due = OPENING_DUE;
            return NO_FAULT;
        }

        private int takeClosing() {
            within = tree.has(within) ? tree.parent[within] : NONE;
            due = within == NONE ? END_DUE : COMMA_OR_CLOSING_DUE;
            return NO_FAULT;
        }

        private int takeSign(char sign, int dueThen) {
            if (kind != sign) {
                return NOT_TEXT;
            }
            due = dueThen;
            return NO_FAULT;
        }

        private boolean isWord(String word) {
            return kind == WORD && tape.says(word, from, to);
        }

        private int howOfWord() {
            if (isWord("slice")) {
                return SLICE;
            }
            if (isWord("rows")) {
                return ROWS;
            }
            if (isWord("cuts")) {
                return CUTS;
            }
            return isWord("best") ? BEST : NONE;
        }
    }

    /** The CHANGES as they were told, and the SIZES that come of them. */
    private static final class Changes {
        int many = 0;
        private final int[] leaf = new int[MOST_CHANGES];
        private final int[] ticks = new int[MOST_CHANGES];
        private final int[] sizes = new int[MOST_CHANGES];
        private final int[] latestTick = new int[MOST_BOXES];

        int add(int b, int tick, int v) {
            if (many >= MOST_CHANGES) {
                return NONE;
            }
            leaf[many] = b;
            ticks[many] = tick;
            sizes[many] = v;
            many++;
            return many - 1;
        }

        /** SIZES of all BOXES of a TREE in a TICK. */
        void tellSizes(Tree tree, int tick, int[] into) {
            for (int b = 0; b < tree.boxes; b++) {
                into[b] = tree.sizeTold[b];
                latestTick[b] = NONE;
            }
            for (int c = 0; c < many; c++) {
                int b = leaf[c];
                if (tree.has(b) && ticks[c] <= tick && ticks[c] >= latestTick[b]) {
                    into[b] = sizes[c];
                    latestTick[b] = ticks[c];
                }
            }
            // from the last one on, so that a GROUP has all its CHILDREN's before its parent gets its own
            for (int b = tree.boxes - 1; b > 0; b--) {
                if (tree.has(tree.parent[b])) {
                    into[tree.parent[b]] += into[b];
                }
            }
        }
    }

    /** RECTANGLES, each with the SIZE of what it is for. */
    private static final class Rectangles {
        static final int SIZE = 4;

        final int[] x;
        final int[] y;
        final int[] wide;
        final int[] high;
        final int[] sizes;

        Rectangles(int many) {
            int length = Math.max(0, many);
            x = new int[length];
            y = new int[length];
            wide = new int[length];
            high = new int[length];
            sizes = new int[length];
        }

        void put(int i, int left, int top, int wideThere, int highThere) {
            x[i] = left;
            y[i] = top;
            wide[i] = wideThere;
            high[i] = highThere;
        }

        int tell(int i, int what) {
            switch (what) {
                case 0:
                    return x[i];
                case 1:
                    return y[i];
                case 2:
                    return wide[i];
                case 3:
                    return high[i];
                case SIZE:
                    return sizes[i];
                case 5:
                    return shapeOf(sizes[i], wide[i], high[i]);
                default:
                    return NONE;
            }
        }

        boolean holds(int i, int left, int top) {
            return left >= x[i] && left < x[i] + wide[i] && top >= y[i] && top < y[i] + high[i];
        }

        /** How far the four sides of one are from those of another one, together. */
        int distance(int i, Rectangles others, int k) {
            int right = x[i] + wide[i] - others.x[k] - others.wide[k];
            int bottom = y[i] + high[i] - others.y[k] - others.high[k];
            return Math.abs(x[i] - others.x[k]) + Math.abs(y[i] - others.y[k]) + Math.abs(right) + Math.abs(bottom);
        }
    }

    /** The DRAWINGS of a TREE that are kept, in turn in the same cells; of the latest one also how it was laid. */
    private static final class Drawings {
        int made = 0;
        final int[] ticks = new int[MOST_KEPT];
        final Rectangles boxes = new Rectangles(MOST_KEPT * MOST_BOXES);
        final boolean[] shown = new boolean[MOST_KEPT * MOST_BOXES];
        final int[] laid = new int[MOST_BOXES];
        final int[] worst = new int[MOST_BOXES];
        final Rectangles rests = new Rectangles(MOST_BOXES);
        /** How many are PUT TOGETHER in the REST of a GROUP; 0 if it has none. */
        final int[] together = new int[MOST_BOXES];

        boolean keeps(int d) {
            return d >= 0 && d < made && d >= made - MOST_KEPT;
        }

        /** Where a BOX of a DRAWING that is kept stands. */
        int cell(int d, int b) {
            return d % MOST_KEPT * MOST_BOXES + b;
        }

        int latestCell(int b) {
            return made > 0 ? cell(made - 1, b) : b;
        }

        void begin(int tick, int many, int[] sizes) {
            ticks[made % MOST_KEPT] = tick;
            made++;
            for (int b = 0; b < many; b++) {
                int cell = latestCell(b);
                boxes.sizes[cell] = sizes[b];
                shown[cell] = false;
            }
        }

        void show(int b, int left, int top, int wide, int high) {
            int cell = latestCell(b);
            boxes.put(cell, left, top, wide, high);
            shown[cell] = true;
        }

        boolean hasRest(Tree tree, int b) {
            return tree.isGroup(b) && together[b] > 0;
        }

        int countShown(Tree tree) {
            int found = 0;
            for (int b = 0; b < tree.boxes && made > 0; b++) {
                if (shown[latestCell(b)]) {
                    found++;
                }
            }
            return found;
        }

        int greatestWorst(Tree tree) {
            int greatest = 0;
            for (int b = 0; b < tree.boxes && made > 0; b++) {
                if (tree.isGroup(b)) {
                    greatest = Math.max(greatest, worst[b]);
                }
            }
            return greatest;
        }
    }

    /** The ITEMS of a GROUP, in order, and the RECTANGLE that they are laid in. */
    private static final class Items {
        private static final int FEWEST_TOGETHER = 2;

        int many = 0;
        /** How many are PUT TOGETHER in the REST; if any, it is the last ITEM. */
        int together = 0;
        /** The BOX of an ITEM, NONE for the REST. */
        final int[] boxes = new int[MOST_CHILDREN];
        final int[] sizes = new int[MOST_CHILDREN];
        int x = 0;
        int y = 0;
        int wide = 0;
        int high = 0;
        /** SIZES of the ITEMS ahead of each, and behind the last one of all. */
        private final int[] ahead = new int[MOST_CHILDREN + 1];

        void gather(Tree tree, int group, Drawings drawings) {
            many = 0;
            int small = tree.open[group] ? 0 : countSmall(tree, group, drawings);
            together = small >= FEWEST_TOGETHER ? small : 0;
            int restSize = 0;
            for (int b = group + 1; b < tree.boxes; b++) {
                if (tree.parent[b] != group) {
                    continue;
                }
                int itemSize = drawings.boxes.sizes[drawings.latestCell(b)];
                if (together > 0 && isSmall(tree, b, drawings)) {
                    restSize += itemSize;
                } else {
                    add(b, itemSize, tree.sorted[group]);
                }
            }
            if (together > 0) {
                add(NONE, restSize, false);
            }
            for (int i = 0; i < many; i++) {
                ahead[i + 1] = ahead[i] + sizes[i];
            }
            setFrame(drawings, drawings.latestCell(group));
        }

        private void setFrame(Drawings drawings, int cell) {
            x = drawings.boxes.x[cell];
            y = drawings.boxes.y[cell];
            wide = drawings.boxes.wide[cell];
            high = drawings.boxes.high[cell];
        }

        private static int countSmall(Tree tree, int group, Drawings drawings) {
            int small = 0;
            for (int b = group + 1; b < tree.boxes; b++) {
                if (tree.parent[b] == group && isSmall(tree, b, drawings)) {
                    small++;
                }
            }
            return small;
        }

        private static boolean isSmall(Tree tree, int b, Drawings drawings) {
            int group = tree.parent[b];
            if (!tree.isLeaf(b) || !tree.has(group)) {
                return false;
            }
            int[] sizes = drawings.boxes.sizes;
            long most = (long) tree.limit[group] * sizes[drawings.latestCell(group)];
            return sizes[drawings.latestCell(b)] * 1000L < most;
        }

        private void add(int b, int itemSize, boolean sorted) {
            if (many >= MOST_CHILDREN) {
                return;
            }
            int at = many;
            while (sorted && at > 0 && sizes[at - 1] < itemSize) {
                boxes[at] = boxes[at - 1];
                sizes[at] = sizes[at - 1];
                at--;
            }
            boxes[at] = b;
            sizes[at] = itemSize;
            many++;
        }

        /** SIZES of the ITEMS from one on, up to another one (that not). */
        int sum(int from, int to) {
            return ahead[to] - ahead[from];
        }

        /** Where ITEM i begins if a length is PARTED for the ITEMS from one on up to another one (that: at the end). */
        int begin(int i, int length, int from, int to) {
            return i >= to ? length : share(length, sum(from, i), sum(from, to));
        }
    }

    /** A LAYING of ITEMS. */
    private static final class Plan {
        int worst = 0;
        final Rectangles places = new Rectangles(MOST_CHILDREN);

        void put(Items items, int i, int left, int top, int wide, int high) {
            places.put(i, left, top, wide, high);
            worst = Math.max(worst, shapeOf(items.sizes[i], wide, high));
        }
    }

    /** Lays GROUPS, each as its HOW wants it. */
    private static final class Layer {
        /** PRICE: what it costs to move. */
        int moveCost = 0;
        private final Items items = new Items();
        private final RowBreaker rowBreaker = new RowBreaker();
        private final Cutter cutter = new Cutter();
        /** One for each of slice, rows, cuts. */
        private final Plan[] plans = {new Plan(), rowBreaker.plan, cutter.plan};

        void layGroup(Tree tree, int group, Drawings drawings) {
            items.gather(tree, group, drawings);
            int laid = SLICE;
            if (items.sum(0, items.many) == 0) {
                layNothing(plans[SLICE]);
            } else {
                laid = layAs(tree.how[group], drawings);
            }
            Plan plan = plans[laid];
            for (int i = 0; i < items.many; i++) {
                show(plan.places, i, group, drawings);
            }
            drawings.together[group] = items.together;
            drawings.laid[group] = laid;
            drawings.worst[group] = plan.worst;
        }

        private void show(Rectangles places, int i, int group, Drawings drawings) {
            if (items.boxes[i] != NONE) {
                drawings.show(items.boxes[i], places.x[i], places.y[i], places.wide[i], places.high[i]);
                return;
            }
            drawings.rests.put(group, places.x[i], places.y[i], places.wide[i], places.high[i]);
            drawings.rests.sizes[group] = items.sizes[i];
        }

        /** Lays as a HOW wants it, best by all the others: by which of them it is to be. */
        private int layAs(int how, Drawings drawings) {
            boolean isAny = how < SLICE || how > CUTS;
            int laid = isAny ? SLICE : how;
            int last = isAny ? CUTS : how;
            int leastCost = Integer.MAX_VALUE;
            for (int by = laid; by <= last; by++) {
                if (by == ROWS) {
                    rowBreaker.lay(items);
                } else if (by == CUTS) {
                    cutter.lay(items);
                } else {
                    laySlice(plans[SLICE]);
                }
                int cost = plans[by].worst + moveCost * movesOf(plans[by].places, drawings) / 100;
                if (cost < leastCost) {
                    leastCost = cost;
                    laid = by;
                }
            }
            return laid;
        }

        /** MOVES of a LAYING against the DRAWING before. */
        private int movesOf(Rectangles places, Drawings drawings) {
            int moves = 0;
            for (int i = 0; i < items.many && drawings.made > 1; i++) {
                if (items.boxes[i] == NONE) {
                    continue;
                }
                int before = drawings.cell(drawings.made - 2, items.boxes[i]);
                if (drawings.shown[before]) {
                    moves += places.distance(i, drawings.boxes, before);
                }
            }
            return moves;
        }

        private void layNothing(Plan plan) {
            plan.worst = 0;
            for (int i = 0; i < items.many; i++) {
                plan.put(items, i, items.x, items.y, 0, 0);
            }
        }

        private void laySlice(Plan plan) {
            plan.worst = 0;
            boolean sideBySide = items.wide >= items.high;
            int length = sideBySide ? items.wide : items.high;
            for (int i = 0; i < items.many; i++) {
                int from = items.begin(i, length, 0, items.many);
                int part = items.begin(i + 1, length, 0, items.many) - from;
                if (sideBySide) {
                    plan.put(items, i, items.x + from, items.y, part, items.high);
                } else {
                    plan.put(items, i, items.x, items.y + from, items.wide, part);
                }
            }
        }
    }

    /** Lays by rows, with the best breaks. A ROW is told by its first ITEM and the one behind its last. */
    private static final class RowBreaker {
        private static final int ENDS = MOST_CHILDREN + 1;

        final Plan plan = new Plan();
        /** WORST of each ROW there could be. */
        private final int[] worst = new int[MOST_CHILDREN * ENDS];
        /** Of the ITEMS from one on the least WORST; the fewest ROWS with which the least WORST of all is kept. */
        private final int[] least = new int[ENDS];
        private final int[] fewest = new int[ENDS];

        void lay(Items items) {
            int many = items.many;
            for (int from = many - 1; from >= 0; from--) {
                for (int to = from + 1; to <= many; to++) {
                    worst[from * ENDS + to] = worstOfRow(items, from, to);
                }
            }
            findLeast(many);
            findFewest(many);
            plan.worst = 0;
            int from = 0;
            for (int row = 0; row < many && from < many; row++) {
                int to = endOfRow(from, many);
                layRow(items, from, to);
                from = to;
            }
        }

        private static int worstOfRow(Items items, int from, int to) {
            int high = items.begin(to, items.high, 0, items.many) - items.begin(from, items.high, 0, items.many);
            int found = 0;
            int left = 0;
            for (int i = from; i < to; i++) {
                int right = items.begin(i + 1, items.wide, from, to);
                found = Math.max(found, shapeOf(items.sizes[i], right - left, high));
                left = right;
            }
            return found;
        }

        private void findLeast(int many) {
            least[many] = 0;
            for (int from = many - 1; from >= 0; from--) {
                least[from] = Integer.MAX_VALUE;
                for (int to = from + 1; to <= many; to++) {
                    least[from] = Math.min(least[from], Math.max(worst[from * ENDS + to], least[to]));
                }
            }
        }

        private void findFewest(int many) {
            fewest[many] = 0;
            for (int from = many - 1; from >= 0; from--) {
                // more than there can be: none that keeps to the least WORST
                fewest[from] = ENDS;
                for (int to = from + 1; to <= many; to++) {
                    if (worst[from * ENDS + to] <= least[0]) {
                        fewest[from] = Math.min(fewest[from], fewest[to] + 1);
                    }
                }
            }
        }

        /** The longest ROW with which the fewest can still be had. */
        private int endOfRow(int from, int many) {
            for (int to = many; to > from + 1; to--) {
                if (worst[from * ENDS + to] <= least[0] && fewest[to] + 1 == fewest[from]) {
                    return to;
                }
            }
            return from + 1;
        }

        private void layRow(Items items, int from, int to) {
            int top = items.begin(from, items.high, 0, items.many);
            int high = items.begin(to, items.high, 0, items.many) - top;
            for (int i = from; i < to; i++) {
                int left = items.begin(i, items.wide, from, to);
                int right = items.begin(i + 1, items.wide, from, to);
                plan.put(items, i, items.x + left, items.y + top, right - left, high);
            }
        }
    }

    /** Lays by the best cuts. Some ITEMS are told by their first one and the one behind their last. */
    private static final class Cutter {
        final Plan plan = new Plan();

        void lay(Items items) {
            plan.worst = 0;
            layPart(items, 0, items.many, items.x, items.y, items.wide, items.high);
        }

        private void layPart(Items items, int from, int to, int x, int y, int wide, int high) {
            if (to - from <= 1) {
                plan.put(items, from, x, y, wide, high);
                return;
            }
            int least = Integer.MAX_VALUE;
            int chosen = from + 1;
            boolean isDown = false;
            for (int middle = from + 1; middle < to; middle++) {
                int across = worstOfCut(items, from, middle, to, wide, high, least);
                if (across < least) {
                    least = across;
                    chosen = middle;
                    isDown = false;
                }
                int down = worstOfCut(items, from, middle, to, high, wide, least);
                if (down < least) {
                    least = down;
                    chosen = middle;
                    isDown = true;
                }
            }
            int first = share(isDown ? high : wide, items.sum(from, chosen), items.sum(from, to));
            if (isDown) {
                layPart(items, from, chosen, x, y, wide, first);
                layPart(items, chosen, to, x, y + first, wide, high - first);
            } else {
                layPart(items, from, chosen, x, y, first, high);
                layPart(items, chosen, to, x + first, y, wide - first, high);
            }
        }

        /** The least WORST with a cut of one side; some number not below the bound if it isn't below that. */
        private static int worstOfCut(Items items, int from, int middle, int to, int side, int other, int bound) {
            int first = share(side, items.sum(from, middle), items.sum(from, to));
            // the fewer ITEMS first: they tell the soonest that it's no use
            boolean firstOnes = middle - from <= to - middle;
            int one = firstOnes ? leastWorst(items, from, middle, first, other, bound)
                    : leastWorst(items, middle, to, side - first, other, bound);
            if (one >= bound) {
                return one;
            }
            int two = firstOnes ? leastWorst(items, middle, to, side - first, other, bound)
                    : leastWorst(items, from, middle, first, other, bound);
            return Math.max(one, two);
        }

        /** The least WORST of all cuts; some number not below the bound if it isn't below that. */
        private static int leastWorst(Items items, int from, int to, int wide, int high, int bound) {
            if (to - from <= 1) {
                return shapeOf(items.sizes[from], wide, high);
            }
            if (items.sum(from, to) == 0) {
                return 0;
            }
            if (wide == 0 || high == 0) {
                return FLAT_SHAPE;
            }
            int least = bound;
            for (int middle = from + 1; middle < to; middle++) {
                least = Math.min(least, worstOfCut(items, from, middle, to, wide, high, least));
                least = Math.min(least, worstOfCut(items, from, middle, to, high, wide, least));
            }
            return least;
        }
    }
}
