import java.util.ArrayList;
import java.util.Collections;
import java.util.HashMap;
import java.util.List;
import java.util.Map;
import java.util.NoSuchElementException;

/**
 * The document once more, as plainly as it can be said and without any care for cost: what AreaSetter is held against.
 * It tries all breaks and all cuts, and keeps every drawing in maps.
 */
final class AreaModel {
    private static final int NONE = -1;
    private static final List<String> HOWS = List.of("slice", "rows", "cuts", "best");

    private static final class Node {
        String name;
        int number;
        Node parent;
        int how = NONE;
        boolean sorted;
        int told;
        int limit;
        boolean open;
        final List<Node> children = new ArrayList<>();

        boolean isGroup() {
            return how != NONE;
        }

        int around() {
            return parent == null ? 0 : parent.around() + 1;
        }
    }

    private record Change(Node leaf, int tick, int v) {
    }

    private record Rect(int x, int y, int wide, int high) {
        long farFrom(Rect o) {
            return (long) Math.abs(x - o.x) + Math.abs(y - o.y) + Math.abs(x + wide - o.x - o.wide)
                    + Math.abs(y + high - o.y - o.high);
        }

        boolean holds(int px, int py) {
            return x <= px && px < x + wide && y <= py && py < y + high;
        }
    }

    /** An ITEM; without a node it is the REST. */
    private record Item(Node node, int size) {
    }

    private record Told(List<Rect> places, int worst) {
    }

    private static final class Drawing {
        int tick;
        final Map<Node, Rect> shown = new HashMap<>();
        final Map<Node, Integer> sizes = new HashMap<>();
        final Map<Node, Rect> rests = new HashMap<>();
        final Map<Node, Integer> restSizes = new HashMap<>();
        final Map<Node, Integer> restMany = new HashMap<>();
        final Map<Node, Integer> laid = new HashMap<>();
        final Map<Node, Integer> worst = new HashMap<>();
    }

    private static final class Fault extends Exception {
        private static final long serialVersionUID = 1L;
        final int kind;
        final int at;

        Fault(int kind, int at) {
            this.kind = kind;
            this.at = at;
        }
    }

    private int sheetWide = 600;
    private int sheetHigh = 400;
    private int price = 0;
    private List<Integer> tape = new ArrayList<>();
    private int faultAt = NONE;
    private List<Node> nodes = new ArrayList<>();
    private List<Change> changes = new ArrayList<>();
    private List<Drawing> drawings = new ArrayList<>();

    boolean sheet(int wide, int high) {
        if (wide < 1 || wide > 3000 || high < 1 || high > 3000) {
            return false;
        }
        sheetWide = wide;
        sheetHigh = high;
        return true;
    }

    boolean price(int v) {
        if (v < 0 || v > 1000) {
            return false;
        }
        price = v;
        return true;
    }

    int feed(int... numbers) {
        if (tape.size() + 20 > 1000) {
            return NONE;
        }
        for (int n : numbers) {
            for (int shift = 24; shift >= 0; shift -= 8) {
                tape.add(n >>> shift & 255);
            }
        }
        return tape.size();
    }

    int end(int n) {
        if (n < 0 || n > tape.size()) {
            return NONE;
        }
        tape = new ArrayList<>(tape.subList(0, n));
        return n;
    }

    // ---- reading, by descent

    private List<Integer> text;
    private int at;
    private List<Node> read;

    private void blanks() {
        while (at < text.size() && (text.get(at) == 32 || text.get(at) == 10)) {
            at++;
        }
    }

    /** The WORD, NUMBER or single byte that stands here, blanks ahead of it passed; "" at the end. */
    private String peek() {
        blanks();
        StringBuilder b = new StringBuilder();
        for (int i = at; i < text.size(); i++) {
            char c = (char) (int) text.get(i);
            boolean letter = c >= 'a' && c <= 'z';
            boolean digit = c >= '0' && c <= '9';
            if (b.length() == 0) {
                b.append(c);
                if (!letter && !digit) {
                    break;
                }
            } else if (letter && Character.isLetter(b.charAt(0)) || digit && Character.isDigit(b.charAt(0))) {
                b.append(c);
            } else {
                break;
            }
        }
        return b.toString();
    }

    private void want(String sign) throws Fault {
        if (!peek().equals(sign)) {
            throw new Fault(1, at);
        }
        at++;
    }

    private Node name(Node parent) throws Fault {
        String word = peek();
        if (!word.matches("[a-z]{1,8}") || HOWS.contains(word) || word.equals("sorted")) {
            throw new Fault(1, at);
        }
        if (read.size() == 40 || parent != null && parent.children.size() == 8) {
            throw new Fault(2, at);
        }
        for (Node n : read) {
            if (n.name.equals(word)) {
                throw new Fault(3, at);
            }
        }
        Node n = new Node();
        n.name = word;
        n.parent = parent;
        n.number = read.size();
        read.add(n);
        if (parent != null) {
            parent.children.add(n);
        }
        at += word.length();
        return n;
    }

    private void groupBehindName(Node n) throws Fault {
        String word = peek();
        if (!HOWS.contains(word)) {
            throw new Fault(1, at);
        }
        if (n.around() >= 6) {
            throw new Fault(2, at);
        }
        n.how = HOWS.indexOf(word);
        at += word.length();
        if (peek().equals("sorted")) {
            n.sorted = true;
            at += 6;
        }
        want("(");
        child(n);
        while (peek().equals(",")) {
            at++;
            child(n);
        }
        want(")");
    }

    private void child(Node group) throws Fault {
        Node n = name(group);
        String token = peek();
        if (token.matches("[0-9]{1,6}")) {
            n.told = Integer.parseInt(token);
            at += token.length();
        } else {
            groupBehindName(n);
        }
    }

    int tree() {
        text = tape;
        tape = new ArrayList<>();
        at = 0;
        read = new ArrayList<>();
        try {
            groupBehindName(name(null));
            if (!peek().isEmpty()) {
                throw new Fault(1, at);
            }
        } catch (Fault f) {
            faultAt = f.at;
            return -f.kind - 2;
        }
        faultAt = NONE;
        nodes = read;
        changes = new ArrayList<>();
        drawings = new ArrayList<>();
        return nodes.size();
    }

    int place() {
        return faultAt;
    }

    // ---- sizes

    private Node node(int b) {
        return b >= 0 && b < nodes.size() ? nodes.get(b) : null;
    }

    private Node group(int b) {
        Node n = node(b);
        return n != null && n.isGroup() ? n : null;
    }

    private int sizeOf(Node n, int tick) {
        if (n.isGroup()) {
            int sum = 0;
            for (Node c : n.children) {
                sum += sizeOf(c, tick);
            }
            return sum;
        }
        for (int t = tick; t >= 0; t--) {
            for (int i = changes.size() - 1; i >= 0; i--) {
                Change c = changes.get(i);
                if (c.leaf == n && c.tick == t) {
                    return c.v;
                }
            }
        }
        return n.told;
    }

    int size(int box, int tick, int v) {
        Node n = node(box);
        if (n == null || n.isGroup() || tick < 0 || tick > 999 || v < 0 || v > 999999 || changes.size() == 100) {
            return NONE;
        }
        changes.add(new Change(n, tick, v));
        return changes.size() - 1;
    }

    boolean rest(int box, int limit, boolean open) {
        Node g = group(box);
        if (g == null || limit < 0 || limit > 999) {
            return false;
        }
        g.limit = limit;
        g.open = open;
        return true;
    }

    // ---- drawing

    private static int shape(int size, int wide, int high) {
        if (size == 0) {
            return 0;
        }
        return wide == 0 || high == 0 ? 1000000 : Math.max(wide, high) * 1000 / Math.min(wide, high);
    }

    private static int sum(List<Item> items) {
        int s = 0;
        for (Item i : items) {
            s += i.size;
        }
        return s;
    }

    /** Where each begins, and behind the last one the length itself. */
    private static int[] parted(int n, List<Item> items) {
        int[] begins = new int[items.size() + 1];
        long all = sum(items);
        long ahead = 0;
        for (int k = 0; k < items.size(); k++) {
            begins[k] = all == 0 ? 0 : (int) (n * ahead / all);
            ahead += items.get(k).size;
        }
        begins[items.size()] = n;
        return begins;
    }

    private static Told told(List<Item> items, List<Rect> places) {
        int worst = 0;
        for (int i = 0; i < items.size(); i++) {
            worst = Math.max(worst, shape(items.get(i).size, places.get(i).wide, places.get(i).high));
        }
        return new Told(places, worst);
    }

    private static Told slice(List<Item> items, Rect r) {
        List<Rect> places = new ArrayList<>();
        int[] b = parted(r.wide >= r.high ? r.wide : r.high, items);
        for (int i = 0; i < items.size(); i++) {
            places.add(r.wide >= r.high ? new Rect(r.x + b[i], r.y, b[i + 1] - b[i], r.high)
                    : new Rect(r.x, r.y + b[i], r.wide, b[i + 1] - b[i]));
        }
        return told(items, places);
    }

    private static Told rows(List<Item> items, Rect r) {
        int n = items.size();
        int[] tops = parted(r.high, items);
        Told best = null;
        List<Integer> bestLengths = null;
        for (int mask = 0; mask < 1 << (n - 1); mask++) {
            List<Integer> lengths = new ArrayList<>();
            List<Rect> places = new ArrayList<>();
            int from = 0;
            for (int i = 0; i < n; i++) {
                if (i < n - 1 && (mask >> i & 1) == 0) {
                    continue;
                }
                List<Item> row = items.subList(from, i + 1);
                int[] lefts = parted(r.wide, row);
                for (int k = 0; k < row.size(); k++) {
                    places.add(new Rect(r.x + lefts[k], r.y + tops[from], lefts[k + 1] - lefts[k],
                            tops[i + 1] - tops[from]));
                }
                lengths.add(row.size());
                from = i + 1;
            }
            Told t = told(items, places);
            if (best == null || t.worst < best.worst || t.worst == best.worst && isAhead(lengths, bestLengths)) {
                best = t;
                bestLengths = lengths;
            }
        }
        return best;
    }

    private static boolean isAhead(List<Integer> a, List<Integer> b) {
        if (a.size() != b.size()) {
            return a.size() < b.size();
        }
        for (int i = 0; i < a.size(); i++) {
            if (!a.get(i).equals(b.get(i))) {
                return a.get(i) > b.get(i);
            }
        }
        return false;
    }

    private static Told cuts(List<Item> items, Rect r, Map<String, Told> memo) {
        if (items.size() == 1) {
            return told(items, List.of(r));
        }
        String key = items.hashCode() + " " + items.size() + " " + r;
        Told known = memo.get(key);
        if (known != null) {
            return known;
        }
        Told best = null;
        long all = sum(items);
        for (int k = 1; k < items.size(); k++) {
            List<Item> first = items.subList(0, k);
            List<Item> others = items.subList(k, items.size());
            for (int way = 0; way < 2; way++) {
                int side = way == 0 ? r.wide : r.high;
                int part = all == 0 ? 0 : (int) ((long) side * sum(first) / all);
                Rect one = way == 0 ? new Rect(r.x, r.y, part, r.high) : new Rect(r.x, r.y, r.wide, part);
                Rect two = way == 0 ? new Rect(r.x + part, r.y, r.wide - part, r.high)
                        : new Rect(r.x, r.y + part, r.wide, r.high - part);
                Told a = cuts(first, one, memo);
                Told b = cuts(others, two, memo);
                int worst = Math.max(a.worst, b.worst);
                if (best == null || worst < best.worst) {
                    List<Rect> places = new ArrayList<>(a.places);
                    places.addAll(b.places);
                    best = new Told(places, worst);
                }
            }
        }
        memo.put(key, best);
        return best;
    }

    private static Told laid(int how, List<Item> items, Rect r) {
        if (sum(items) == 0) {
            return new Told(Collections.nCopies(items.size(), new Rect(r.x, r.y, 0, 0)), 0);
        }
        return how == 0 ? slice(items, r) : how == 1 ? rows(items, r) : cuts(items, r, new HashMap<>());
    }

    private List<Item> items(Node g, Drawing d) {
        List<Node> small = new ArrayList<>();
        for (Node c : g.children) {
            if (!c.isGroup() && 1000L * d.sizes.get(c) < (long) g.limit * d.sizes.get(g)) {
                small.add(c);
            }
        }
        if (g.open || small.size() < 2) {
            small.clear();
        }
        List<Item> items = new ArrayList<>();
        for (Node c : g.children) {
            if (!small.contains(c)) {
                items.add(new Item(c, d.sizes.get(c)));
            }
        }
        if (g.sorted) {
            items.sort((a, b) -> Integer.compare(b.size, a.size));
        }
        if (!small.isEmpty()) {
            int all = 0;
            for (Node c : small) {
                all += d.sizes.get(c);
            }
            items.add(new Item(null, all));
            d.restMany.put(g, small.size());
            d.restSizes.put(g, all);
        }
        return items;
    }

    private void lay(Node g, Drawing d, Drawing before) {
        List<Item> items = items(g, d);
        Rect r = d.shown.get(g);
        int laid = g.how;
        Told chosen;
        if (sum(items) == 0) {
            laid = 0;
            chosen = laid(0, items, r);
        } else if (g.how < 3) {
            chosen = laid(g.how, items, r);
        } else {
            chosen = null;
            long least = 0;
            for (int how = 0; how < 3; how++) {
                Told t = laid(how, items, r);
                long moves = 0;
                for (int i = 0; i < items.size(); i++) {
                    Node n = items.get(i).node;
                    if (n != null && before != null && before.shown.containsKey(n)) {
                        moves += t.places.get(i).farFrom(before.shown.get(n));
                    }
                }
                long cost = t.worst + price * moves / 100;
                if (chosen == null || cost < least) {
                    least = cost;
                    chosen = t;
                    laid = how;
                }
            }
        }
        d.laid.put(g, laid);
        d.worst.put(g, chosen.worst);
        for (int i = 0; i < items.size(); i++) {
            Node n = items.get(i).node;
            if (n == null) {
                d.rests.put(g, chosen.places.get(i));
            } else {
                d.shown.put(n, chosen.places.get(i));
                if (n.isGroup()) {
                    lay(n, d, before);
                }
            }
        }
    }

    int draw(int tick) {
        if (nodes.isEmpty() || tick < 0 || tick > 999) {
            return NONE;
        }
        Drawing d = new Drawing();
        d.tick = tick;
        for (Node n : nodes) {
            d.sizes.put(n, sizeOf(n, tick));
        }
        d.shown.put(nodes.get(0), new Rect(0, 0, sheetWide, sheetHigh));
        lay(nodes.get(0), d, latest());
        drawings.add(d);
        return drawings.size() - 1;
    }

    // ---- telling

    private Drawing latest() {
        return drawings.isEmpty() ? null : drawings.get(drawings.size() - 1);
    }

    private static int tell(Rect r, int size, int what) {
        int[] all = {r.x, r.y, r.wide, r.high, size, shape(size, r.wide, r.high)};
        return what >= 0 && what < all.length ? all[what] : NONE;
    }

    int box(int b, int what) {
        Node n = node(b);
        Drawing d = latest();
        if (n == null || d == null) {
            return NONE;
        }
        if (what == 4) {
            return d.sizes.get(n);
        }
        if (!d.shown.containsKey(n)) {
            return NONE;
        }
        if (what == 6) {
            return d.laid.getOrDefault(n, NONE);
        }
        if (what == 7) {
            return d.worst.getOrDefault(n, NONE);
        }
        return tell(d.shown.get(n), d.sizes.get(n), what);
    }

    int restOf(int b, int what) {
        Node n = node(b);
        Drawing d = latest();
        if (n == null || d == null || !d.rests.containsKey(n)) {
            return NONE;
        }
        return what == 6 ? d.restMany.get(n) : tell(d.rests.get(n), d.restSizes.get(n), what);
    }

    int under(int x, int y) {
        Drawing d = latest();
        if (d == null) {
            return NONE;
        }
        Node inner = null;
        for (Node n : nodes) {
            Rect r = d.shown.get(n);
            if (r != null && r.holds(x, y) && (inner == null || n.around() > inner.around())) {
                inner = n;
            }
        }
        if (inner == null) {
            return NONE;
        }
        Rect rest = d.rests.get(inner);
        return rest != null && rest.holds(x, y) ? 100 + inner.number : inner.number;
    }

    int letters(int b) {
        Node n = node(b);
        Drawing d = latest();
        if (n == null || d == null) {
            return NONE;
        }
        Rect r = d.shown.get(n);
        int fit = 0;
        while (r != null && r.high >= 10 && fit < n.name.length() && 6 * (fit + 1) + 2 <= r.wide) {
            fit++;
        }
        return fit;
    }

    int moved(int b) {
        Node n = node(b);
        if (n == null || drawings.size() < 2) {
            return NONE;
        }
        Rect now = latest().shown.get(n);
        Rect then = drawings.get(drawings.size() - 2).shown.get(n);
        return now == null || then == null ? NONE : (int) now.farFrom(then);
    }

    int past(int d, int b, int what) {
        Node n = node(b);
        if (n == null || d < 0 || d >= drawings.size() || d < drawings.size() - 50 || what < 0 || what > 5) {
            throw new NoSuchElementException();
        }
        Drawing there = drawings.get(d);
        if (what == 5) {
            return there.tick;
        }
        if (what == 4) {
            return there.sizes.get(n);
        }
        if (!there.shown.containsKey(n)) {
            throw new NoSuchElementException();
        }
        return tell(there.shown.get(n), 0, what);
    }

    int about(int b, int what) {
        Node n = node(b);
        if (n == null || what < 0 || what > 8 || what >= 5 && !n.isGroup()) {
            return NONE;
        }
        int parent = n.parent == null ? NONE : n.parent.number;
        int[] all = {parent, n.isGroup() ? 1 : 0, n.children.size(), n.name.length(), n.around(), n.how,
                n.sorted ? 1 : 0, n.limit, n.open ? 1 : 0};
        return all[what];
    }

    int letter(int b, int i) {
        Node n = node(b);
        return n != null && i >= 0 && i < n.name.length() ? n.name.charAt(i) : NONE;
    }

    int named() {
        StringBuilder s = new StringBuilder();
        for (int c : tape) {
            s.append((char) c);
        }
        tape = new ArrayList<>();
        for (Node n : nodes) {
            if (n.name.equals(s.toString())) {
                return n.number;
            }
        }
        return NONE;
    }

    int sizeIn(int b, int tick) {
        Node n = node(b);
        return n == null || tick < 0 || tick > 999 ? NONE : sizeOf(n, tick);
    }

    int count(int what) {
        Drawing d = latest();
        int groups = 0;
        for (Node n : nodes) {
            groups += n.isGroup() ? 1 : 0;
        }
        switch (what) {
            case 0:
                return nodes.size();
            case 1:
                return groups;
            case 2:
                return changes.size();
            case 3:
                return drawings.size();
            case 4:
                return tape.size();
            case 5:
                return d == null ? 0 : d.shown.size();
            case 6:
                return d == null ? 0 : Collections.max(d.worst.values());
            default:
                return NONE;
        }
    }
}
