/** Promises 1 to 3, 8 to 16, 20, 21: SIZES, RESTS, DRAWINGS, what is told of them; the numbers are reckoned by hand. */
public final class DrawTests {
    private static final Hand HAND = new Hand();
    private static final int[] ODD = {-1, Integer.MIN_VALUE, Integer.MAX_VALUE};

    public static void main(String[] args) {
        promise1NewObject();
        promise1FirstPrice();
        promise2Sheet();
        promise3Price();
        promise8Size();
        promise9Rest();
        promise10Draw();
        promise10Slice();
        promise10Rows();
        promise10Cuts();
        promise10Best();
        promise10Nothing();
        promise10Sorted();
        promise10Whole();
        promise11Box();
        promise12RestOf();
        promise13Under();
        promise14Letters();
        promise15Moved();
        promise16Past();
        promise20SizeIn();
        promise21Count();
        HAND.close("DrawTests");
    }

    private static void promise1NewObject() {
        Used s = new Used();
        HAND.due("NONE", AreaSetter.NONE, -1);
        for (int what = 0; what < 7; what++) {
            HAND.due("count(" + what + ")", s.count(what), 0);
        }
        HAND.due("place", s.place(), -1);
        HAND.due("draw", s.draw(0), -1);
        HAND.due("size", s.size(0, 0, 1), -1);
        HAND.due("rest", s.rest(0, 1, false), false);
        HAND.due("box", s.box(0, 4), -1);
        HAND.due("restOf", s.restOf(0, 6), -1);
        HAND.due("under", s.under(0, 0), -1);
        HAND.due("letters", s.letters(0), -1);
        HAND.due("moved", s.moved(0), -1);
        HAND.duePast(s, 0, 0, 5, Hand.THROWN);
        HAND.due("about", s.about(0, 1), -1);
        HAND.due("letter", s.letter(0, 0), -1);
        HAND.due("named", s.named(), -1);
        HAND.due("sizeIn", s.sizeIn(0, 0), -1);
        Hand.tree(s, "r slice(a 1)");
        s.draw(0);
        HAND.dueBox(s, 0, 0, 0, 600, 400);
        HAND.due("laid with the first PRICE", laidWithPrice(-1), 2);
    }

    /** With PRICE 1 rows would be the best: 2010 and 0 to 1992 and 30. */
    private static void promise1FirstPrice() {
        Used s = Hand.drawn(1000, 1000, "r best(a 2,b 1,c 1)");
        s.sheet(1005, 1000);
        s.draw(0);
        HAND.due("laid with PRICE 0", s.box(0, 6), 2);
        Used t = Hand.drawn(1000, 1000, "r best(a 2,b 1,c 1)");
        t.price(1);
        t.sheet(1005, 1000);
        t.draw(0);
        HAND.due("laid with PRICE 1", t.box(0, 6), 1);
    }

    private static void promise2Sheet() {
        Used s = Hand.drawn(1, 3000, "r slice(a 1)");
        HAND.dueBox(s, 0, 0, 0, 1, 3000);
        HAND.due("sheet(3000, 1)", s.sheet(3000, 1), true);
        HAND.dueBox(s, 0, 0, 0, 1, 3000);
        int[] wrong = {0, 3001, -1, Integer.MIN_VALUE, Integer.MAX_VALUE};
        for (int v : wrong) {
            HAND.due("sheet(" + v + ", 5)", s.sheet(v, 5), false);
            HAND.due("sheet(5, " + v + ")", s.sheet(5, v), false);
        }
        s.draw(0);
        HAND.dueBox(s, 0, 0, 0, 3000, 1);
    }

    /** How a GROUP is laid that by rows would be worse (2200 to 1818), but move less (30 to 325). */
    private static int laidWithPrice(int price) {
        Used s = Hand.with(100, 100, "r best(a 2,b 1,c 1)");
        s.price(price);
        s.draw(0);
        HAND.due("laid at first", s.box(0, 6), 1);
        s.sheet(110, 100);
        s.draw(0);
        return s.box(0, 6);
    }

    private static void promise3Price() {
        Used s = new Used();
        HAND.due("price(0)", s.price(0), true);
        HAND.due("price(1000)", s.price(1000), true);
        HAND.due("price(1001)", s.price(1001), false);
        for (int odd : ODD) {
            HAND.due("price(" + odd + ")", s.price(odd), false);
        }
        HAND.due("laid with PRICE 0", laidWithPrice(0), 2);
        HAND.due("laid with PRICE 129", laidWithPrice(129), 2);
        HAND.due("laid with PRICE 130", laidWithPrice(130), 1);
        HAND.due("laid with PRICE 1000", laidWithPrice(1000), 1);
        Used t = Hand.with(100, 100, "r best(a 2,b 1,c 1)");
        t.price(130);
        t.price(1001);
        t.price(-1);
        t.draw(0);
        t.sheet(110, 100);
        t.draw(0);
        HAND.due("laid with the PRICE from before", t.box(0, 6), 1);
    }

    private static void promise8Size() {
        Used s = Hand.with(10, 10, "r slice(a 1,g rows(b 2))");
        HAND.due("of a GROUP", s.size(0, 0, 1), -1);
        HAND.due("of a GROUP", s.size(2, 0, 1), -1);
        HAND.due("no BOX", s.size(4, 0, 1), -1);
        for (int odd : ODD) {
            HAND.due("no BOX", s.size(odd, 0, 1), -1);
            HAND.due("no TICK", s.size(1, odd, 1), -1);
            HAND.due("no SIZE", s.size(1, 0, odd), -1);
        }
        HAND.due("no TICK", s.size(1, 1000, 1), -1);
        HAND.due("no SIZE", s.size(1, 0, 1000000), -1);
        HAND.due("changes", s.count(2), 0);
        HAND.due("size", s.size(1, 5, 7), 0);
        HAND.due("size", s.size(1, 3, 9), 1);
        HAND.due("size", s.size(3, 999, 999999), 2);
        HAND.due("size", s.size(3, 0, 0), 3);
        int[] due = {1, 1, 1, 9, 9, 7, 7};
        for (int t = 0; t < due.length; t++) {
            HAND.due("sizeIn(1, " + t + ")", s.sizeIn(1, t), due[t]);
        }
        s.size(1, 5, 8);
        s.size(1, 4, 100);
        HAND.due("the last told", s.sizeIn(1, 5), 8);
        HAND.due("the greatest TICK", s.sizeIn(1, 999), 8);
        HAND.due("between", s.sizeIn(1, 4), 100);
        HAND.due("from 0 on", s.sizeIn(3, 0), 0);
        HAND.due("in the last one", s.sizeIn(2, 999), 999999);
        for (int i = 6; i < 100; i++) {
            HAND.due("size " + i, s.size(1, 0, i), i);
        }
        HAND.due("100 are there", s.size(1, 0, 5), -1);
        HAND.due("changes", s.count(2), 100);
        HAND.due("size", s.sizeIn(1, 0), 99);
    }

    private static void promise9Rest() {
        Used s = Hand.with(100, 10, "r slice(a 1,b 1,c 8)");
        HAND.due("of a LEAF", s.rest(1, 5, false), false);
        HAND.due("no BOX", s.rest(4, 5, false), false);
        HAND.due("LIMIT 1000", s.rest(0, 1000, true), false);
        for (int odd : ODD) {
            HAND.due("no BOX", s.rest(odd, 5, false), false);
            HAND.due("no LIMIT", s.rest(0, odd, true), false);
        }
        HAND.due("limit", s.about(0, 7), 0);
        HAND.due("open", s.about(0, 8), 0);
        HAND.due("LIMIT 999", s.rest(0, 999, true), true);
        HAND.due("limit", s.about(0, 7), 999);
        HAND.due("open", s.about(0, 8), 1);
        HAND.due("together if OPEN", drawnTogether(s, 0), -1);
        s.rest(0, 100, false);
        HAND.due("together at the LIMIT", drawnTogether(s, 0), -1);
        s.rest(0, 101, false);
        HAND.due("together below the LIMIT", drawnTogether(s, 0), 2);
        s.rest(0, 0, false);
        HAND.due("together with LIMIT 0", drawnTogether(s, 0), -1);
        s.rest(0, 101, false);
        s.size(1, 7, 9);
        s.draw(7);
        HAND.due("one SMALL alone", s.restOf(0, 6), -1);
        HAND.dueBox(s, 2, 50, 0, 5, 10);
        Used g = Hand.with(100, 10, "r slice(q slice(x 1),b 1,p slice(y 1),c 1,d 96)");
        g.rest(0, 500, false);
        HAND.due("GROUPS are not SMALL", drawnTogether(g, 0), 2);
        HAND.dueBox(g, 1, 0, 0, 1, 10);
        HAND.dueBox(g, 4, 1, 0, 1, 10);
        HAND.dueBox(g, 7, 2, 0, 96, 10);
        HAND.dueRest(g, 0, 98, 0, 2, 10);
        Used all = Hand.with(100, 10, "r rows(a 1,b 1)");
        all.rest(0, 501, false);
        HAND.due("all are SMALL", drawnTogether(all, 0), 2);
        HAND.dueRest(all, 0, 0, 0, 100, 10);
        HAND.due("shown", all.count(5), 1);
        Used big = Hand.with(100, 10, "r slice(a 999999,b 999999,c 999999,d 1,e 1)");
        big.rest(0, 333, false);
        HAND.due("great SIZES", drawnTogether(big, 0), 2);
        Used none = Hand.with(100, 10, "r slice(a 0,b 0)");
        none.rest(0, 999, false);
        HAND.due("nothing is less than 0", drawnTogether(none, 0), -1);
    }

    private static int drawnTogether(Used s, int b) {
        s.draw(0);
        return s.restOf(b, 6);
    }

    private static void promise10Draw() {
        Used s = Hand.with(100, 10, "r slice(a 1,b 1)");
        HAND.due("draw(1000)", s.draw(1000), -1);
        for (int odd : ODD) {
            HAND.due("no TICK", s.draw(odd), -1);
        }
        HAND.due("drawings", s.count(3), 0);
        for (int d = 0; d < 120; d++) {
            HAND.due("draw " + d, s.draw(d == 0 ? 0 : 999), d);
        }
        Used t = Hand.drawn(300, 100, "r slice(a 1,g rows(b 1,c 1))");
        HAND.dueBox(t, 0, 0, 0, 300, 100);
        HAND.dueBox(t, 1, 0, 0, 100, 100);
        HAND.dueBox(t, 2, 100, 0, 200, 100);
        HAND.dueBox(t, 3, 100, 0, 100, 100);
        HAND.dueBox(t, 4, 200, 0, 100, 100);
        Used u = Hand.drawn(100, 300, "r slice(a 1,g cuts(b 1,c 1))");
        HAND.dueBox(u, 2, 0, 100, 100, 200);
        HAND.dueBox(u, 3, 0, 100, 100, 100);
        HAND.dueBox(u, 4, 0, 200, 100, 100);
        Used great = Hand.drawn(3000, 10, "r slice(a 999999,b 999999,c 999999)");
        HAND.dueBox(great, 3, 2000, 0, 1000, 10);
    }

    private static void promise10Slice() {
        Used s = Hand.drawn(100, 100, "r slice(a 1,b 2)");
        HAND.dueBox(s, 1, 0, 0, 33, 100);
        HAND.dueBox(s, 2, 33, 0, 67, 100);
        s.sheet(99, 100);
        s.draw(0);
        HAND.dueBox(s, 1, 0, 0, 99, 33);
        HAND.dueBox(s, 2, 0, 33, 99, 67);
        Used t = Hand.drawn(90, 20, "r slice(z 0,a 1,y 0)");
        HAND.dueBox(t, 1, 0, 0, 0, 20);
        HAND.dueBox(t, 2, 0, 0, 90, 20);
        HAND.dueBox(t, 3, 90, 0, 0, 20);
        HAND.due("worst", t.box(0, 7), 4500);
    }

    private static void promise10Rows() {
        Used fewest = Hand.drawn(100, 100, "r rows(a 1,b 1)");
        HAND.dueBox(fewest, 1, 0, 0, 50, 100);
        HAND.dueBox(fewest, 2, 50, 0, 50, 100);
        Used most = Hand.drawn(90, 99, "r rows(a 1,b 1,c 1)");
        HAND.due("worst", most.box(0, 7), 2727);
        HAND.dueBox(most, 1, 0, 0, 45, 66);
        HAND.dueBox(most, 2, 45, 0, 45, 66);
        HAND.dueBox(most, 3, 0, 66, 90, 33);
        Used two = Hand.drawn(100, 100, "r rows(a 2,b 1,c 1)");
        HAND.due("worst", two.box(0, 7), 2000);
        HAND.dueBox(two, 1, 0, 0, 100, 50);
        HAND.dueBox(two, 2, 0, 50, 50, 50);
        HAND.dueBox(two, 3, 50, 50, 50, 50);
        // of 101 the second begins at 33, the third at 67 (cut each)
        Used column = Hand.drawn(34, 101, "r rows(a 1,b 1,c 1)");
        HAND.dueBox(column, 1, 0, 0, 34, 33);
        HAND.dueBox(column, 2, 0, 33, 34, 34);
        HAND.dueBox(column, 3, 0, 67, 34, 34);
        Used eight = Hand.drawn(400, 200, "r rows(a 1,b 1,c 1,d 1,e 1,f 1,g 1,h 1)");
        for (int i = 0; i < 8; i++) {
            HAND.dueBox(eight, i + 1, i % 4 * 100, i / 4 * 100, 100, 100);
        }
        Used zero = Hand.drawn(50, 50, "r rows(a 1,y 0,z 0)");
        HAND.dueBox(zero, 1, 0, 0, 50, 50);
        HAND.dueBox(zero, 2, 50, 0, 0, 50);
        HAND.dueBox(zero, 3, 50, 0, 0, 50);
    }

    private static void promise10Cuts() {
        Used one = Hand.drawn(70, 30, "r cuts(a 5)");
        HAND.dueBox(one, 1, 0, 0, 70, 30);
        Used wayFirst = Hand.drawn(100, 100, "r cuts(a 1,b 1)");
        HAND.dueBox(wayFirst, 2, 50, 0, 50, 100);
        Used down = Hand.drawn(99, 100, "r cuts(a 1,b 1)");
        HAND.dueBox(down, 1, 0, 0, 99, 50);
        HAND.dueBox(down, 2, 0, 50, 99, 50);
        Used s = Hand.drawn(110, 100, "r cuts(a 2,b 1,c 1)");
        HAND.due("worst", s.box(0, 7), 1818);
        HAND.dueBox(s, 1, 0, 0, 55, 100);
        HAND.dueBox(s, 2, 55, 0, 55, 50);
        HAND.dueBox(s, 3, 55, 50, 55, 50);
        Used four = Hand.drawn(100, 100, "r cuts(a 1,b 1,c 1,d 1)");
        HAND.dueBox(four, 1, 0, 0, 50, 50);
        HAND.dueBox(four, 2, 0, 50, 50, 50);
        HAND.dueBox(four, 3, 50, 0, 50, 50);
        HAND.dueBox(four, 4, 50, 50, 50, 50);
        Used eight = Hand.drawn(400, 200, "r cuts(a 1,b 1,c 1,d 1,e 1,f 1,g 1,h 1)");
        for (int i = 0; i < 8; i++) {
            HAND.dueBox(eight, i + 1, i / 2 * 100, i % 2 * 100, 100, 100);
        }
        Used upright = Hand.drawn(200, 400, "r cuts(a 1,b 1,c 1,d 1,e 1,f 1,g 1,h 1)");
        // two by two from above, but the last four, of 200 by 200, by way 0
        for (int i = 0; i < 4; i++) {
            HAND.dueBox(upright, i + 1, i % 2 * 100, i / 2 * 100, 100, 100);
            HAND.dueBox(upright, i + 5, i / 2 * 100, i % 2 * 100 + 200, 100, 100);
        }
        Used mixed = Hand.drawn(90, 60, "r cuts(a 1,b 1,c 2,d 1,e 1)");
        HAND.due("worst", mixed.box(0, 7), 2000);
        HAND.dueBox(mixed, 1, 0, 0, 30, 30);
        HAND.dueBox(mixed, 2, 0, 30, 30, 30);
        HAND.dueBox(mixed, 3, 30, 0, 30, 60);
        HAND.dueBox(mixed, 4, 60, 0, 30, 30);
        HAND.dueBox(mixed, 5, 60, 30, 30, 30);
        Used behind = Hand.drawn(100, 100, "r cuts(a 1,y 0,z 0)");
        HAND.dueBox(behind, 1, 0, 0, 100, 100);
        HAND.dueBox(behind, 2, 100, 0, 0, 100);
        HAND.dueBox(behind, 3, 100, 0, 0, 100);
        Used ahead = Hand.drawn(100, 100, "r cuts(y 0,z 0,a 1)");
        HAND.dueBox(ahead, 1, 0, 0, 0, 100);
        HAND.dueBox(ahead, 2, 0, 0, 0, 100);
        HAND.dueBox(ahead, 3, 0, 0, 100, 100);
        // half of 1 is 0 (cut) for the first one, all is the other's
        Used thin = Hand.drawn(1, 1, "r cuts(a 1,b 1)");
        HAND.due("worst", thin.box(0, 7), 1000000);
        HAND.dueBox(thin, 1, 0, 0, 0, 1);
        HAND.dueBox(thin, 2, 0, 0, 1, 1);
    }

    private static void promise10Best() {
        Used slice = Hand.drawn(300, 100, "r best(a 1,b 1,c 1)");
        HAND.due("laid", slice.box(0, 6), 0);
        Used rows = Hand.drawn(100, 100, "r best(a 1,b 1,c 1,d 1)");
        HAND.due("laid", rows.box(0, 6), 1);
        HAND.due("worst", rows.box(0, 7), 1000);
        HAND.dueBox(rows, 2, 50, 0, 50, 50);
        Used cuts = Hand.drawn(110, 100, "r best(a 2,b 1,c 1)");
        HAND.due("laid", cuts.box(0, 6), 2);
        HAND.due("worst", cuts.box(0, 7), 1818);
        // those that were not SHOWN in the DRAWING before do not count, so all is as in the first one
        Used hidden = Hand.with(100, 100, "r best(a 2,b 1,c 1)");
        hidden.price(1000);
        hidden.rest(0, 999, false);
        hidden.draw(0);
        HAND.due("together", hidden.restOf(0, 6), 3);
        hidden.rest(0, 999, true);
        hidden.sheet(110, 100);
        hidden.draw(0);
        HAND.due("laid", hidden.box(0, 6), 2);
        // nor does the DRAWING of another TREE
        Hand.tree(hidden, "r best(a 2,b 1,c 1)");
        hidden.sheet(100, 100);
        hidden.draw(0);
        HAND.due("laid", hidden.box(0, 6), 1);
    }

    private static void promise10Nothing() {
        for (String how : new String[] {"slice", "rows", "cuts", "best"}) {
            Used s = Hand.drawn(100, 50, "r " + how + "(a 0,b 0,g " + how + "(c 0))");
            HAND.dueBox(s, 0, 0, 0, 100, 50);
            for (int b = 1; b < 5; b++) {
                HAND.dueBox(s, b, 0, 0, 0, 0);
                HAND.due("shape", s.box(b, 5), 0);
            }
            HAND.due("laid", s.box(0, 6), 0);
            HAND.due("laid", s.box(3, 6), 0);
            HAND.due("worst", s.box(0, 7), 0);
            HAND.due("shown", s.count(5), 5);
            Used t = Hand.drawn(100, 50, "r slice(a 1,g " + how + "(c 0,d 0),b 1)");
            HAND.dueBox(t, 2, 50, 0, 0, 50);
            HAND.dueBox(t, 3, 50, 0, 0, 0);
            HAND.dueBox(t, 4, 50, 0, 0, 0);
            HAND.due("laid", t.box(2, 6), 0);
        }
    }

    private static void promise10Sorted() {
        Used s = Hand.drawn(80, 10, "r slice sorted(a 1,b 3,c 1,d 3)");
        HAND.dueBox(s, 2, 0, 0, 30, 10);
        HAND.dueBox(s, 4, 30, 0, 30, 10);
        HAND.dueBox(s, 1, 60, 0, 10, 10);
        HAND.dueBox(s, 3, 70, 0, 10, 10);
        s.size(1, 5, 4);
        s.draw(5);
        HAND.dueBox(s, 1, 0, 0, 29, 10);
        Used t = Hand.with(70, 10, "r slice sorted(a 2,b 2,c 3)");
        t.rest(0, 400, false);
        t.draw(0);
        HAND.dueBox(t, 3, 0, 0, 30, 10);
        HAND.dueRest(t, 0, 30, 0, 40, 10);
        Used told = Hand.drawn(40, 10, "r slice(a 1,b 3)");
        HAND.dueBox(told, 1, 0, 0, 10, 10);
    }

    /** A TREE as great as can be, drawn more often than is kept: what is SHOWN, and the RESTS, fill the SHEET. */
    private static void promise10Whole() {
        String[] hows = {"slice", "rows", "cuts", "best"};
        for (int h = 0; h < 4; h++) {
            StringBuilder text = new StringBuilder("r " + hows[h] + "(");
            for (int g = 0; g < 4; g++) {
                text.append("g").append((char) ('a' + g)).append(' ').append(hows[(g + h) % 4]).append('(');
                for (int i = 0; i < 8; i++) {
                    text.append(i == 0 ? "" : ",").append("abcdefg").append((char) ('a' + g * 2 + i / 4));
                    text.setCharAt(text.length() - 8, (char) ('h' + i));
                    text.append(1 + (i * 37 + g * 11) % 50);
                }
                text.append("),");
            }
            text.append("x 9,y 30,z 70)");
            for (int last : new int[] {0, 1, 2, 7, 20, 49, 50, 60}) {
                fillsTheSheet(text.toString(), last);
            }
        }
    }

    private static void fillsTheSheet(String text, int last) {
        Used s = Hand.with(600, 400, text);
        HAND.due("boxes", s.count(0), 40);
        s.price(50);
        for (int d = 0; d <= last; d++) {
            s.sheet(600 - d, 300 + d);
            s.rest(d % 40, d * 3, d % 7 == 0);
            HAND.due("draw", s.draw(d), d);
        }
        HAND.due("area", area(s, 40), (600 - last) * (300 + last));
    }

    private static int area(Used s, int boxes) {
        int area = 0;
        for (int b = 0; b < boxes; b++) {
            if (s.about(b, 1) == 0 && s.box(b, 0) != -1) {
                area += s.box(b, 2) * s.box(b, 3);
            }
            if (s.restOf(b, 6) != -1) {
                area += s.restOf(b, 2) * s.restOf(b, 3);
            }
        }
        return area;
    }

    private static void promise11Box() {
        Used s = Hand.with(100, 10, "r slice(a 1,b 1,c 8,g cuts(d 10))");
        HAND.due("no DRAWING", s.box(0, 0), -1);
        HAND.due("no DRAWING", s.box(0, 4), -1);
        s.rest(0, 100, false);
        s.draw(0);
        int[][] all = {
            {0, 0, 100, 10, 20, 10000, 0, 5000},
            {-1, -1, -1, -1, 1, -1, -1, -1},
            {-1, -1, -1, -1, 1, -1, -1, -1},
            {0, 0, 40, 10, 8, 4000, -1, -1},
            {40, 0, 50, 10, 10, 5000, 2, 5000},
            {40, 0, 50, 10, 10, 5000, -1, -1},
        };
        for (int b = 0; b < all.length; b++) {
            for (int what = 0; what < 8; what++) {
                HAND.due("box(" + b + ", " + what + ")", s.box(b, what), all[b][what]);
            }
            HAND.due("no what", s.box(b, 8), -1);
            HAND.due("no what", s.box(b, -1), -1);
        }
        for (int odd : ODD) {
            HAND.due("no BOX", s.box(odd, 0), -1);
            HAND.due("no BOX", s.box(odd, 4), -1);
            HAND.due("no what", s.box(0, odd), -1);
        }
        HAND.due("no BOX", s.box(6, 4), -1);
        s.size(1, 0, 50);
        s.rest(0, 0, false);
        s.sheet(5, 5);
        HAND.due("as it was drawn", s.box(1, 4), 1);
        HAND.due("as it was drawn", s.box(1, 0), -1);
        HAND.due("as it was drawn", s.box(0, 2), 100);
        Used flat = Hand.drawn(1, 1, "r slice(a 1,b 1,z 0)");
        HAND.due("flat", flat.box(1, 5), 1000000);
        HAND.due("square", flat.box(2, 5), 1000);
        HAND.due("nothing", flat.box(3, 5), 0);
        HAND.due("worst", flat.box(0, 7), 1000000);
        Used line = Hand.drawn(3000, 1, "r slice(a 1)");
        HAND.due("line", line.box(1, 5), 3000000);
        Used cut = Hand.drawn(200, 3, "r slice(a 1)");
        HAND.due("cut", cut.box(1, 5), 66666);
    }

    private static void promise12RestOf() {
        Used s = Hand.with(100, 10, "r slice(a 1,b 1,c 8,g slice(d 1,e 1,f 8))");
        s.rest(0, 60, false);
        HAND.due("no DRAWING", s.restOf(0, 6), -1);
        s.draw(0);
        int[] all = {90, 0, 10, 10, 2, 1000, 2, -1};
        for (int what = 0; what < all.length; what++) {
            HAND.due("restOf(0, " + what + ")", s.restOf(0, what), all[what]);
            HAND.due("none there", s.restOf(4, what), -1);
            HAND.due("of a LEAF", s.restOf(1, what), -1);
            HAND.due("no BOX", s.restOf(8, what), -1);
        }
        for (int odd : ODD) {
            HAND.due("no BOX", s.restOf(odd, 0), -1);
            HAND.due("no what", s.restOf(0, odd), -1);
        }
        s.rest(4, 101, false);
        HAND.due("not before it is drawn", s.restOf(4, 6), -1);
        s.draw(0);
        HAND.dueBox(s, 4, 40, 0, 50, 10);
        HAND.dueRest(s, 4, 80, 0, 10, 10);
        s.rest(0, 60, true);
        HAND.due("as it was drawn", s.restOf(0, 6), 2);
        s.draw(0);
        HAND.due("none when OPEN", s.restOf(0, 6), -1);
        HAND.due("none when OPEN", s.restOf(0, 4), -1);
        HAND.due("the other one", s.restOf(4, 4), 2);
        Hand.tree(s, "r slice(a 1)");
        HAND.due("no DRAWING", s.restOf(0, 6), -1);
        Used zero = Hand.with(50, 10, "r slice(a 0,b 0,c 5)");
        zero.rest(0, 1, false);
        zero.draw(0);
        HAND.dueRest(zero, 0, 50, 0, 0, 10);
        HAND.due("size", zero.restOf(0, 4), 0);
        HAND.due("shape", zero.restOf(0, 5), 0);
        HAND.due("many", zero.restOf(0, 6), 2);
    }

    private static void promise13Under() {
        Used s = Hand.with(100, 10, "r slice(a 1,b 1,z 0,c 8,g slice(d 1,e 1,f 8))");
        HAND.due("no DRAWING", s.under(0, 0), -1);
        s.rest(5, 101, false);
        s.draw(0);
        int[][] all = {
            {0, 0, 1}, {4, 9, 1}, {5, 0, 2}, {9, 5, 2}, {10, 0, 4}, {49, 9, 4}, {50, 0, 8}, {89, 9, 8},
            {90, 0, 105}, {99, 9, 105}, {100, 0, -1}, {0, 10, -1}, {-1, 0, -1}, {0, -1, -1},
        };
        for (int[] one : all) {
            HAND.due("under(" + one[0] + ", " + one[1] + ")", s.under(one[0], one[1]), one[2]);
        }
        for (int odd : ODD) {
            HAND.due("no point", s.under(odd, 0), -1);
            HAND.due("no point", s.under(0, odd), -1);
        }
        s.rest(5, 0, false);
        s.rest(0, 60, false);
        HAND.due("as it was drawn", s.under(90, 0), 105);
        s.draw(0);
        HAND.due("c first", s.under(0, 0), 4);
        HAND.due("in d", s.under(40, 0), 6);
        HAND.due("REST of the first GROUP", s.under(90, 0), 100);
        Used zero = Hand.drawn(10, 10, "r slice(a 0,g slice(b 0))");
        HAND.due("the first GROUP alone", zero.under(9, 9), 0);
        Hand.tree(zero, "r slice(a 1)");
        HAND.due("no DRAWING of the new TREE", zero.under(0, 0), -1);
    }

    private static void promise14Letters() {
        Used s = Hand.with(8, 10, "abcdefgh slice(ab 1)");
        HAND.due("no DRAWING", s.letters(0), -1);
        int[][] all = {
            {8, 10, 1, 1}, {7, 10, 0, 0}, {1, 10, 0, 0}, {8, 9, 0, 0}, {13, 10, 1, 1}, {14, 10, 2, 2}, {20, 11, 3, 2},
            {49, 10, 7, 2}, {50, 10, 8, 2}, {56, 10, 8, 2}, {3000, 3000, 8, 2}, {3000, 9, 0, 0},
        };
        for (int[] one : all) {
            s.sheet(one[0], one[1]);
            s.draw(0);
            HAND.due("letters of 8 in " + one[0] + " by " + one[1], s.letters(0), one[2]);
            HAND.due("letters of 2 in " + one[0] + " by " + one[1], s.letters(1), one[3]);
        }
        HAND.due("no BOX", s.letters(2), -1);
        for (int odd : ODD) {
            HAND.due("no BOX", s.letters(odd), -1);
        }
        Used hidden = Hand.with(100, 100, "r slice(a 1,b 1,c 8)");
        hidden.draw(0);
        HAND.due("SHOWN", hidden.letters(1), 1);
        for (int i = 0; i < 50; i++) {
            hidden.draw(0);
        }
        hidden.rest(0, 500, false);
        hidden.draw(0);
        HAND.due("not SHOWN", hidden.letters(1), 0);
        HAND.due("SHOWN", hidden.letters(3), 1);
    }

    private static void promise15Moved() {
        Used s = Hand.with(100, 100, "r rows(a 2,b 1,c 1)");
        HAND.due("no DRAWING", s.moved(0), -1);
        s.draw(0);
        HAND.due("one DRAWING", s.moved(0), -1);
        s.sheet(110, 100);
        s.draw(0);
        int[] far = {10, 10, 5, 15};
        for (int b = 0; b < far.length; b++) {
            HAND.due("moved(" + b + ")", s.moved(b), far[b]);
        }
        HAND.due("no BOX", s.moved(4), -1);
        for (int odd : ODD) {
            HAND.due("no BOX", s.moved(odd), -1);
        }
        s.draw(0);
        HAND.due("nothing moved", s.moved(3), 0);
        s.rest(0, 300, false);
        s.draw(0);
        HAND.due("not SHOWN now", s.moved(2), -1);
        HAND.due("the first BOX", s.moved(0), 0);
        s.draw(0);
        HAND.due("not SHOWN in both", s.moved(2), -1);
        s.rest(0, 0, false);
        s.draw(0);
        HAND.due("not SHOWN then", s.moved(2), -1);
        s.draw(0);
        HAND.due("SHOWN in both", s.moved(2), 0);
        Used up = Hand.drawn(300, 100, "r slice(a 1,b 2)");
        up.sheet(100, 300);
        up.draw(0);
        HAND.due("moved(2)", up.moved(2), 100 + 100 + 200 + 200);
        for (int i = 0; i < 60; i++) {
            up.sheet(100 + i % 2, 300);
            up.draw(0);
            HAND.due("moved " + i, up.moved(0), i == 0 ? 0 : 1);
        }
    }

    private static void promise16Past() {
        Used s = Hand.with(100, 10, "r slice(a 1,b 1,c 8)");
        HAND.duePast(s, 0, 0, 0, Hand.THROWN);
        HAND.duePast(s, 0, 0, 5, Hand.THROWN);
        s.draw(7);
        s.size(1, 9, 11);
        s.sheet(200, 20);
        s.draw(9);
        s.rest(0, 101, false);
        s.draw(0);
        int[][] all = {
            {0, 1, 0, 0, 10, 10, 1, 7}, {0, 2, 10, 0, 10, 10, 1, 7}, {0, 0, 0, 0, 100, 10, 10, 7},
            {1, 1, 0, 0, 110, 20, 11, 9}, {1, 3, 120, 0, 80, 20, 8, 9}, {2, 3, 0, 0, 160, 20, 8, 0},
        };
        for (int[] one : all) {
            for (int what = 0; what < 6; what++) {
                HAND.duePast(s, one[0], one[1], what, one[2 + what]);
            }
        }
        for (int what = 0; what < 4; what++) {
            HAND.duePast(s, 2, 1, what, Hand.THROWN);
        }
        HAND.duePast(s, 2, 1, 4, 1);
        HAND.duePast(s, 2, 1, 5, 0);
        for (int odd : new int[] {-1, 6, Integer.MIN_VALUE, Integer.MAX_VALUE}) {
            HAND.duePast(s, odd, 0, 0, Hand.THROWN);
            HAND.duePast(s, 0, odd, 0, Hand.THROWN);
            HAND.duePast(s, 0, odd, 4, Hand.THROWN);
            HAND.duePast(s, 0, 0, odd, Hand.THROWN);
        }
        HAND.duePast(s, 3, 0, 0, Hand.THROWN);
        HAND.duePast(s, 0, 4, 5, Hand.THROWN);
        promise16Kept();
    }

    private static void promise16Kept() {
        Used t = Hand.with(1, 1, "r slice(a 1)");
        for (int d = 0; d < 70; d++) {
            t.sheet(d + 1, 1);
            t.draw(d);
            HAND.duePast(t, d, 0, 2, d + 1);
            HAND.duePast(t, d - 49, 0, 2, d < 49 ? Hand.THROWN : d - 48);
            HAND.duePast(t, d - 49, 0, 5, d < 49 ? Hand.THROWN : d - 49);
            HAND.duePast(t, d - 50, 0, 5, Hand.THROWN);
            HAND.duePast(t, d + 1, 0, 5, Hand.THROWN);
        }
        Used often = Hand.with(1, 1, "r slice(a 1)");
        for (int d = 0; d < 130; d++) {
            often.sheet(d + 1, 1);
            often.draw(d);
        }
        for (int d = 78; d < 132; d++) {
            boolean isKept = d >= 80 && d < 130;
            HAND.duePast(often, d, 1, 2, isKept ? d + 1 : Hand.THROWN);
            HAND.duePast(often, d, 0, 5, isKept ? d : Hand.THROWN);
        }
    }

    private static void promise20SizeIn() {
        Used s = Hand.with(10, 10, "r slice(a 1,g rows(b 2,h cuts(c 4)),d 999999)");
        int[] first = {1000006, 1, 6, 2, 4, 4, 999999};
        for (int b = 0; b < first.length; b++) {
            HAND.due("sizeIn(" + b + ", 0)", s.sizeIn(b, 0), first[b]);
            HAND.due("sizeIn(" + b + ", 999)", s.sizeIn(b, 999), first[b]);
        }
        s.size(5, 10, 40);
        s.size(1, 20, 0);
        HAND.due("before", s.sizeIn(0, 9), 1000006);
        HAND.due("from then on", s.sizeIn(0, 10), 1000042);
        HAND.due("in a GROUP", s.sizeIn(2, 10), 42);
        HAND.due("in the inner one", s.sizeIn(4, 19), 40);
        HAND.due("both", s.sizeIn(0, 20), 1000041);
        HAND.due("the LEAF", s.sizeIn(1, 20), 0);
        HAND.due("no BOX", s.sizeIn(7, 0), -1);
        HAND.due("no TICK", s.sizeIn(0, 1000), -1);
        for (int odd : ODD) {
            HAND.due("no BOX", s.sizeIn(odd, 0), -1);
            HAND.due("no TICK", s.sizeIn(0, odd), -1);
        }
        s.draw(10);
        s.size(5, 10, 7);
        HAND.due("not that of the DRAWING", s.sizeIn(5, 10), 7);
        HAND.due("that of the DRAWING", s.box(5, 4), 40);
    }

    private static void promise21Count() {
        Used s = Hand.with(100, 10, "r slice(a 1,b 1,c 8,g slice(d 1,e 1))");
        s.size(1, 5, 1);
        s.feed(0, 0, 0, 0, 0);
        int[] undrawn = {7, 2, 1, 0, 20, 0, 0};
        for (int what = 0; what < undrawn.length; what++) {
            HAND.due("count(" + what + ")", s.count(what), undrawn[what]);
        }
        s.draw(0);
        s.draw(0);
        HAND.due("drawings", s.count(3), 2);
        HAND.due("shown", s.count(5), 7);
        // 100 by 10 in 12 parts: c is from 16 to 83
        HAND.due("worst", s.count(6), 6700);
        s.rest(0, 100, false);
        HAND.due("shown in the latest", s.count(5), 7);
        s.draw(0);
        HAND.due("shown with a REST", s.count(5), 5);
        Used inner = Hand.drawn(100, 100, "r slice(g slice(a 1,b 1,c 1,d 1))");
        HAND.due("worst of an inner GROUP", inner.count(6), 4000);
        Used outer = Hand.drawn(400, 100, "r slice(g slice(a 1,b 1,c 1,d 1))");
        HAND.due("worst of the outer GROUP", outer.count(6), 4000);
        for (int i = 0; i < 70; i++) {
            outer.draw(0);
        }
        HAND.due("more than are kept", outer.count(3), 71);
        HAND.due("no what", s.count(7), -1);
        for (int odd : ODD) {
            HAND.due("no what", s.count(odd), -1);
        }
    }
}
