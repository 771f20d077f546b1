/** Sentences about TICKS, CHANGES, RESTS and ITEMS. */
final class SizeSentences {
    private SizeSentences() {
    }

    static void tell(Sentences s) {
        s.under("Terms");
        changes(s);
        rests(s);
        items(s);
    }

    private static void changes(Sentences s) {
        s.says("TICKS are numbers 0 to 999.", h -> {
            Used u = Hand.with(10, 10, "r slice(a 1)");
            for (int right : new int[] {0, 1, 500, 998, 999}) {
                h.due("size in " + right, u.size(1, right, 5) >= 0, true);
                h.due("sizeIn " + right, u.sizeIn(1, right), 5);
                h.due("draw in " + right, u.draw(right) >= 0, true);
            }
            for (int wrong : Hand.outside(0, 999)) {
                h.due("size in " + wrong, u.size(1, wrong, 5), -1);
                h.due("sizeIn " + wrong, u.sizeIn(1, wrong), -1);
                h.due("draw in " + wrong, u.draw(wrong), -1);
            }
        });
        s.says("CHANGES, at most 100:", h -> {
            Used u = Hand.with(10, 10, "r slice(a 1,b 2)");
            for (int i = 0; i < 100; i++) {
                h.due("CHANGE " + i, u.size(1 + i % 2, i, 1000 + i), i);
            }
            h.due("one more", u.size(1, 999, 7), -1);
            h.due("of another LEAF", u.size(2, 0, 7), -1);
            h.due("CHANGES", u.count(2), 100);
            h.due("nothing is changed", u.sizeIn(1, 999), 1098);
            h.due("nothing is changed", u.sizeIn(2, 999), 1099);
            h.due("the first one stays", u.sizeIn(1, 0), 1000);
            h.due("of the TEXT", u.sizeIn(2, 0), 2);
        });
        s.says("from a TICK on a LEAF has another SIZE (0 to 999999).", h -> {
            Used u = Hand.with(10, 10, "r slice(a 1,b 2)");
            h.due("SIZE 0", u.size(1, 500, 0), 0);
            h.due("SIZE 999999", u.size(2, 999, 999999), 1);
            h.due("before", u.sizeIn(1, 499), 1);
            h.due("from then on", u.sizeIn(1, 500), 0);
            h.due("up to the last one", u.sizeIn(1, 999), 0);
            h.due("before", u.sizeIn(2, 998), 2);
            h.due("in the last one", u.sizeIn(2, 999), 999999);
            for (int wrong : Hand.outside(0, 999999)) {
                h.due("SIZE " + wrong, u.size(1, 0, wrong), -1);
            }
            h.due("CHANGES", u.count(2), 2);
            h.due("as before", u.sizeIn(1, 0), 1);
        });
        s.says("SIZE of a LEAF in a TICK: that of the CHANGE of it with the greatest TICK that is not behind,", h -> {
            Used u = Hand.with(10, 10, "r slice(a 1,b 2)");
            u.size(1, 5, 50);
            u.size(1, 3, 30);
            u.size(1, 8, 80);
            u.size(2, 4, 40);
            u.size(2, 0, 99);
            int[] a = {1, 1, 1, 30, 30, 50, 50, 50, 80, 80};
            for (int t = 0; t < a.length; t++) {
                h.due("a in " + t, u.sizeIn(1, t), a[t]);
                h.due("b in " + t, u.sizeIn(2, t), t < 4 ? 99 : 40);
            }
            h.due("a in 999", u.sizeIn(1, 999), 80);
        });
        s.says("of several the last told;", h -> {
            Used u = Hand.with(10, 10, "r slice(a 1,b 2)");
            u.size(1, 5, 50);
            u.size(1, 5, 70);
            u.size(1, 5, 60);
            h.due("of three", u.sizeIn(1, 5), 60);
            u.size(2, 5, 3);
            u.size(1, 4, 90);
            h.due("not an earlier TICK's", u.sizeIn(1, 5), 60);
            u.size(1, 5, 0);
            h.due("of four", u.sizeIn(1, 6), 0);
            u.size(1, 0, 8);
            u.size(1, 0, 9);
            h.due("in TICK 0", u.sizeIn(1, 0), 9);
        });
        s.says("without one that of the TEXT.", h -> {
            Used u = Hand.with(10, 10, "r slice(a 7,b 0,c 999999)");
            h.due("a", u.sizeIn(1, 0), 7);
            h.due("b", u.sizeIn(2, 999), 0);
            h.due("c", u.sizeIn(3, 0), 999999);
            u.size(2, 0, 5);
            u.size(1, 999, 6);
            h.due("a CHANGE of another one", u.sizeIn(3, 999), 999999);
            h.due("a CHANGE behind", u.sizeIn(1, 998), 7);
        });
        s.says("Of a GROUP: those of its CHILDREN together.", h -> {
            Used u = Hand.with(10, 10, "r slice(a 1,g rows(b 20,k cuts(c 300,d 0),e 4000),f 50000)");
            int[] due = {54321, 1, 4320, 20, 300, 300, 0, 4000, 50000};
            for (int b = 0; b < due.length; b++) {
                h.due("SIZE of " + b, u.sizeIn(b, 0), due[b]);
            }
            u.size(6, 7, 600000);
            h.due("in TICK 6", u.sizeIn(0, 6), 54321);
            h.due("in TICK 7", u.sizeIn(0, 7), 654321);
            h.due("between", u.sizeIn(2, 7), 604320);
            h.due("about it", u.sizeIn(4, 7), 600300);
            u.draw(7);
            h.due("in a DRAWING", u.box(0, 4), 654321);
            h.due("in a DRAWING", u.box(4, 4), 600300);
            Used great = Hand.with(10, 10, greatest());
            h.due("35 LEAVES", great.sizeIn(0, 0), 34999965);
            Used none = Hand.with(10, 10, "r slice(g rows(a 0,b 0))");
            h.due("nothing", none.sizeIn(0, 0), 0);
        });
    }

    private static String greatest() {
        StringBuilder text = new StringBuilder("r slice(");
        for (char g = 'a'; g < 'e'; g++) {
            text.append('g').append(g).append(" rows(");
            for (char i = 'a'; i < 'i'; i++) {
                text.append(i == 'a' ? "" : ",").append(g).append(i).append(" 999999");
            }
            text.append("),");
        }
        return text.append("w 999999,x 999999,y 999999)").toString();
    }

    private static int together(Used u, int limit, boolean open) {
        u.rest(0, limit, open);
        u.draw(0);
        return u.restOf(0, 6);
    }

    private static void rests(Sentences s) {
        s.says("REST: a GROUP has a LIMIT, 0 to 999, and is OPEN or not (0, not, at first).", h -> {
            Used u = Hand.with(10, 10, "r slice(a 1,g rows(b 2))");
            for (int g = 0; g < 3; g += 2) {
                h.due("LIMIT at first", u.about(g, 7), 0);
                h.due("OPEN at first", u.about(g, 8), 0);
            }
            for (int right : new int[] {0, 1, 998, 999}) {
                h.due("LIMIT " + right, u.rest(2, right, right % 2 == 0), true);
                h.due("LIMIT", u.about(2, 7), right);
                h.due("OPEN", u.about(2, 8), 1 - right % 2);
            }
            for (int wrong : Hand.outside(0, 999)) {
                h.due("LIMIT " + wrong, u.rest(2, wrong, true), false);
            }
            h.due("LIMIT", u.about(2, 7), 999);
            h.due("OPEN", u.about(2, 8), 0);
            h.due("the other GROUP's LIMIT", u.about(0, 7), 0);
            Used two = Hand.with(10, 10, "r slice(a 0,b 0,c 5)");
            two.draw(0);
            h.due("nothing is PUT TOGETHER at first", two.restOf(0, 6), -1);
        });
        s.says("In a TICK those LEAVES among its CHILDREN are SMALL whose SIZE times 1000 is less than LIMIT times the GROUP's;",
                SizeSentences::small);
        s.says("if it isn't OPEN,", h -> {
            Used u = Hand.with(100, 10, "r slice(a 1,b 1,c 8)");
            h.due("OPEN", together(u, 999, true), -1);
            h.due("SHOWN", u.count(5), 4);
            h.dueBox(u, 1, 0, 0, 10, 10);
            h.due("not OPEN", together(u, 999, false), 3);
            h.due("SHOWN", u.count(5), 1);
            h.due("OPEN again", together(u, 101, true), -1);
            h.due("not OPEN again", together(u, 101, false), 2);
        });
        s.says("and there are two at least, they are PUT TOGETHER:", h -> {
            Used none = Hand.with(100, 10, "r slice(a 5,b 5)");
            h.due("none is SMALL", together(none, 500, false), -1);
            Used one = Hand.with(100, 10, "r slice(a 1,b 9)");
            h.due("one is SMALL", together(one, 500, false), -1);
            h.dueBox(one, 1, 0, 0, 10, 10);
            h.due("SHOWN", one.count(5), 3);
            Used two = Hand.with(100, 10, "r slice(a 1,b 8,c 1)");
            h.due("two are SMALL", together(two, 500, false), 2);
            h.due("SHOWN", two.count(5), 2);
            Used eight = Hand.with(100, 10, "r slice(a 1,b 1,c 1,d 1,e 1,f 1,g 1,h 1)");
            h.due("all eight are SMALL", together(eight, 126, false), 8);
            h.due("SHOWN", eight.count(5), 1);
            h.dueRest(eight, 0, 0, 0, 100, 10);
            Used single = Hand.with(100, 10, "r slice(a 0)");
            h.due("an only CHILD", together(single, 999, false), -1);
        });
        s.says("one ITEM, the REST, with their SIZES together, in place of them.", h -> {
            Used u = Hand.with(100, 10, "r slice(a 1,b 16,c 2,g rows(d 1))");
            h.due("many", together(u, 500, false), 2);
            h.dueRest(u, 0, 85, 0, 15, 10);
            h.due("SIZES together", u.restOf(0, 4), 3);
            h.due("SHAPE", u.restOf(0, 5), 1500);
            h.due("not SHOWN", u.box(1, 0), -1);
            h.due("not SHOWN", u.box(3, 0), -1);
            Used great = Hand.with(100, 10, greatest());
            great.rest(0, 999, false);
            great.rest(1, 999, false);
            great.draw(0);
            h.due("SIZES together", great.restOf(0, 4), 2999997);
            h.due("SIZES together", great.restOf(1, 4), 7999992);
        });
    }

    private static void small(Hand h) {
        Used u = Hand.with(100, 10, "r slice(a 1,b 1,c 8)");
        h.due("1000 is not less than 1000", together(u, 100, false), -1);
        h.due("1000 is less than 1010", together(u, 101, false), 2);
        h.due("0 is less than nothing", together(Hand.with(9, 9, "r slice(a 0,b 0,c 5)"), 0, false), -1);
        h.due("0 is less than 5", together(Hand.with(9, 9, "r slice(a 0,b 0,c 5)"), 1, false), 2);
        h.due("0 is not less than 0", together(Hand.with(9, 9, "r slice(a 0,b 0)"), 999, false), -1);
        h.due("999000 is not less than 999000", together(Hand.with(9, 9, "r slice(a 999,b 1)"), 999, false), -1);
        h.due("all are less", together(Hand.with(9, 9, "r slice(a 998,b 2)"), 999, false), 2);
        Used groups = Hand.with(100, 10, "r slice(q slice(x 1),b 1,p slice(y 1),c 1,d 96)");
        h.due("LEAVES alone", together(groups, 500, false), 2);
        h.dueBox(groups, 1, 0, 0, 1, 10);
        h.dueBox(groups, 2, 0, 0, 1, 10);
        h.due("of the inner GROUP none", groups.restOf(1, 6), -1);
        Used one = Hand.with(100, 10, "r slice(g slice(x 1,y 1),b 1,d 97)");
        h.due("its CHILDREN alone", together(one, 500, false), -1);
        Used inner = Hand.with(100, 10, "r slice(a 90,g slice(x 4,y 6))");
        inner.rest(2, 700, false);
        inner.draw(0);
        h.due("of that GROUP's SIZE", inner.restOf(2, 6), 2);
        inner.rest(2, 600, false);
        inner.draw(0);
        h.due("6000 is not less than 6000", inner.restOf(2, 6), -1);
        Used ticks = Hand.with(100, 10, "r slice(a 5,b 5,c 5)");
        ticks.rest(0, 200, false);
        ticks.size(1, 3, 1);
        ticks.size(2, 5, 1);
        int[] many = {-1, -1, -1, -1, -1, 2};
        for (int t = 0; t < many.length; t++) {
            ticks.draw(t);
            h.due("in TICK " + t, ticks.restOf(0, 6), many[t]);
        }
        // LIMIT times the GROUP's is beyond 32 bits, with and without a sign
        Used great = Hand.with(100, 10, "r slice(a 999999,b 999999,c 999999,d 1,e 1)");
        h.due("great SIZES", together(great, 999, false), 5);
        h.due("great SIZES", together(great, 333, false), 2);
        Used greater = Hand.with(100, 10, "r slice(a 900000,b 900000,c 900000,d 900000,e 900000)");
        h.due("greater SIZES", together(greater, 999, false), 5);
        h.due("at the LIMIT", together(greater, 200, false), -1);
        h.due("below it", together(greater, 201, false), 5);
    }

    private static void items(Sentences s) {
        s.says("ITEMS of a GROUP: its CHILDREN (but those that are PUT TOGETHER) as they were told,", h -> {
            Used u = Hand.drawn(100, 10, "r slice(a 1,b 3,c 2,d 4)");
            int[] x = {0, 10, 40, 60};
            for (int i = 0; i < 4; i++) {
                h.due("x of " + (i + 1), u.box(i + 1, 0), x[i]);
            }
            u.rest(0, 250, false);
            u.draw(0);
            h.dueBox(u, 2, 0, 0, 30, 10);
            h.dueBox(u, 4, 30, 0, 40, 10);
            h.due("PUT TOGETHER", u.box(1, 0), -1);
            h.due("PUT TOGETHER", u.box(3, 0), -1);
            Used inner = Hand.drawn(100, 10, "r slice(g slice(a 1,b 2),c 7)");
            h.dueBox(inner, 1, 0, 0, 30, 10);
            h.dueBox(inner, 4, 30, 0, 70, 10);
        });
        s.says("or, if sorted, those of the greater SIZE first,", h -> {
            Used u = Hand.drawn(100, 10, "r slice sorted(a 1,b 3,c 2,d 4)");
            int[] x = {90, 40, 70, 0};
            for (int i = 0; i < 4; i++) {
                h.due("x of " + (i + 1), u.box(i + 1, 0), x[i]);
            }
            u.size(1, 5, 91);
            u.draw(5);
            h.due("in another TICK", u.box(1, 0), 0);
            Used inner = Hand.drawn(100, 10, "r slice sorted(a 4,g slice(b 1,c 5))");
            h.dueBox(inner, 2, 0, 0, 60, 10);
            h.dueBox(inner, 3, 0, 0, 10, 10);
            h.dueBox(inner, 1, 60, 0, 40, 10);
            for (String how : new String[] {"slice", "rows", "cuts", "best"}) {
                Used each = Hand.drawn(90, 10, "r " + how + " sorted(z 0,a 1,b 8)");
                h.dueBox(each, 3, 0, 0, 80, 10);
                h.dueBox(each, 2, 80, 0, 10, 10);
                h.dueBox(each, 1, 90, 0, 0, 10);
            }
        });
        s.says("of like ones as they were told;", h -> {
            Used u = Hand.drawn(80, 10, "r slice sorted(a 1,b 3,c 1,d 3)");
            int[] x = {60, 0, 70, 30};
            for (int i = 0; i < 4; i++) {
                h.due("x of " + (i + 1), u.box(i + 1, 0), x[i]);
            }
            Used eight = Hand.drawn(80, 10, "r slice sorted(a 1,b 1,c 1,d 1,e 1,f 1,g 1,h 1)");
            for (int b = 1; b <= 8; b++) {
                h.due("x of " + b, eight.box(b, 0), b * 10 - 10);
            }
        });
        s.says("behind all the REST, if there is one.", h -> {
            Used first = Hand.with(100, 10, "r slice(a 1,b 1,c 8)");
            together(first, 200, false);
            h.dueBox(first, 3, 0, 0, 80, 10);
            h.dueRest(first, 0, 80, 0, 20, 10);
            Used sorted = Hand.with(70, 10, "r slice sorted(a 2,b 2,c 3)");
            together(sorted, 400, false);
            h.dueBox(sorted, 3, 0, 0, 30, 10);
            h.dueRest(sorted, 0, 30, 0, 40, 10);
            Used group = Hand.with(100, 10, "r slice sorted(a 3,b 3,g slice(c 4))");
            together(group, 400, false);
            h.dueBox(group, 3, 0, 0, 40, 10);
            h.dueRest(group, 0, 40, 0, 60, 10);
            Used none = Hand.with(100, 10, "r slice(a 1,b 9)");
            h.due("there is none", together(none, 200, false), -1);
            h.dueBox(none, 2, 10, 0, 90, 10);
        });
    }
}
