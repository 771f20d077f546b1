/** Sentences about RECTANGLES, LAYINGS and DRAWINGS; all numbers are reckoned by hand from the document. */
final class LayingSentences {
    private static final String[] HOWS = {"slice", "rows", "cuts", "best"};

    private LayingSentences() {
    }

    static void tell(Sentences s) {
        s.under("Terms");
        shapes(s);
        parts(s);
        slice(s);
        rows(s);
        cuts(s);
        best(s);
        drawings(s);
    }

    /** x, y, wide, high of the BOXES from 1 on. */
    private static void dueAll(Hand h, Used u, int[]... places) {
        for (int i = 0; i < places.length; i++) {
            h.dueBox(u, i + 1, places[i]);
        }
    }

    private static int[] at(int x, int y, int wide, int high) {
        return new int[] {x, y, wide, high};
    }

    private static void shapes(Sentences s) {
        s.says("A RECTANGLE has x, y (of its left upper corner; y grows downwards), wide, high.", h -> {
            Used u = Hand.drawn(100, 300, "r slice(a 1,g slice(b 1,c 3))");
            dueAll(h, u, at(0, 0, 100, 60), at(0, 60, 100, 240), at(0, 60, 100, 60), at(0, 120, 100, 180));
            h.due("left above", u.under(0, 0), 1);
            h.due("left below", u.under(0, 299), 4);
            h.due("right above", u.under(99, 0), 1);
        });
        s.says("SHAPE of an ITEM in one: 0 if its SIZE is 0;", h -> {
            Used u = Hand.drawn(90, 20, "r slice(z 0,a 1,y 0)");
            h.due("wide 0", u.box(1, 5), 0);
            h.due("at the end", u.box(3, 5), 0);
            h.due("WORST", u.box(0, 7), 4500);
            Used nothing = Hand.drawn(600, 400, "r slice(g rows(a 0))");
            h.due("all the SHEET", nothing.box(0, 5), 0);
            h.due("a GROUP", nothing.box(1, 5), 0);
            h.due("a LEAF", nothing.box(2, 5), 0);
            Used rest = Hand.with(50, 10, "r slice(a 0,b 0,c 5)");
            rest.rest(0, 1, false);
            rest.draw(0);
            h.due("a REST", rest.restOf(0, 5), 0);
        });
        s.says("else 1000000 if wide or high is 0;", h -> {
            Used wide = Hand.drawn(1, 1, "r slice(a 1,b 1)");
            dueAll(h, wide, at(0, 0, 0, 1), at(0, 0, 1, 1));
            h.due("wide 0", wide.box(1, 5), 1000000);
            h.due("not 0", wide.box(2, 5), 1000);
            h.dueLaid(wide, 0, 0, 1000000);
            Used high = Hand.drawn(1, 2, "r slice(a 1,b 1,c 1)");
            dueAll(h, high, at(0, 0, 1, 0), at(0, 0, 1, 1), at(0, 1, 1, 1));
            h.due("high 0", high.box(1, 5), 1000000);
            Used both = Hand.drawn(1, 1, "r slice(g slice(a 1,b 1),c 2)");
            dueAll(h, both, at(0, 0, 0, 1), at(0, 0, 0, 0), at(0, 0, 0, 1), at(0, 0, 1, 1));
            h.due("both 0", both.box(2, 5), 1000000);
            h.due("wide 0", both.box(3, 5), 1000000);
            h.dueLaid(both, 1, 0, 1000000);
            both.rest(1, 999, false);
            both.draw(0);
            h.dueRest(both, 1, 0, 0, 0, 1);
            h.due("a REST", both.restOf(1, 5), 1000000);
        });
        s.says("else the greater of both times 1000, divided by the lesser one (cut).", h -> {
            int[][] all = {{200, 3, 66666}, {3, 200, 66666}, {100, 100, 1000}, {1, 1, 1000}, {7, 3, 2333}, {2, 3, 1500},
                {3000, 1, 3000000}, {1, 3000, 3000000}, {3000, 3000, 1000}, {3000, 2999, 1000}, {1001, 1000, 1001}};
            for (int[] one : all) {
                Used u = Hand.drawn(one[0], one[1], "r slice(a 1)");
                h.due("SHAPE in " + one[0] + " by " + one[1], u.box(1, 5), one[2]);
                h.due("of BOX 0", u.box(0, 5), one[2]);
            }
        });
        s.says("A LAYING of ITEMS in a RECTANGLE gives each a RECTANGLE; it has a WORST, the greatest SHAPE of all.", h -> {
            int[][] worst = {{1, 4, 4}, {4, 1, 4}, {4, 4, 1}};
            for (int[] one : worst) {
                String text = "(a " + one[0] + ",b " + one[1] + ",c " + one[2] + ")";
                Used u = Hand.drawn(90, 40, "r slice" + text);
                h.dueLaid(u, 0, 0, 4000);
                h.due("SHOWN", u.count(5), 4);
            }
            Used rest = Hand.with(100, 10, "r slice(a 4,b 4,c 12)");
            rest.rest(0, 300, false);
            rest.draw(0);
            h.dueLaid(rest, 0, 0, 6000);
            rest.size(1, 1, 9);
            rest.size(2, 1, 9);
            rest.rest(0, 600, false);
            rest.draw(1);
            h.dueLaid(rest, 0, 0, 10000);
            Used many = Hand.with(100, 10, "r slice(a 4,b 4,c 4,d 4,e 4)");
            many.rest(0, 201, false);
            many.draw(0);
            h.due("the REST's SHAPE", many.box(0, 7), 10000);
            Used single = Hand.drawn(100, 10, "r slice(g slice(a 1,b 1))");
            h.due("of each GROUP its own", single.box(0, 7), 10000);
            h.due("of each GROUP its own", single.box(1, 7), 5000);
        });
        s.says("S is the sum of the SIZES; with S 0 all ITEMS get the RECTANGLE's x, y, wide 0, high 0, in each LAYING.", h -> {
            for (String how : HOWS) {
                Used u = Hand.drawn(100, 50, "r " + how + " sorted(a 0,b 0,g " + how + "(c 0))");
                h.dueBox(u, 0, 0, 0, 100, 50);
                dueAll(h, u, at(0, 0, 0, 0), at(0, 0, 0, 0), at(0, 0, 0, 0), at(0, 0, 0, 0));
                h.dueLaid(u, 0, 0, 0);
                h.dueLaid(u, 3, 0, 0);
                Used wide = Hand.drawn(100, 50, "r slice(a 1,g " + how + "(c 0,d 0),b 1)");
                dueAll(h, wide, at(0, 0, 50, 50), at(50, 0, 0, 50), at(50, 0, 0, 0), at(50, 0, 0, 0));
                h.dueLaid(wide, 2, 0, 0);
                Used high = Hand.drawn(50, 100, "r slice(a 1,g " + how + "(c 0,d 0),b 1)");
                dueAll(h, high, at(0, 0, 50, 50), at(0, 50, 50, 0), at(0, 50, 0, 0), at(0, 50, 0, 0));
                Used one = Hand.drawn(50, 100, "r " + how + "(a 0)");
                h.dueBox(one, 1, 0, 0, 0, 0);
            }
        });
    }

    private static void parts(Sentences s) {
        s.says("To PART a length n for some ITEMS one behind the other, T being the sum of their SIZES: the k-th begins at n"
                + " times the sum of those ahead of it, divided by T (cut),", h -> {
            Used thirds = Hand.drawn(100, 10, "r slice(a 1,b 1,c 1)");
            dueAll(h, thirds, at(0, 0, 33, 10), at(33, 0, 33, 10), at(66, 0, 34, 10));
            Used sevenths = Hand.drawn(10, 1, "r slice(a 1,b 2,c 3,d 1)");
            dueAll(h, sevenths, at(0, 0, 1, 1), at(1, 0, 3, 1), at(4, 0, 4, 1), at(8, 0, 2, 1));
            // 3000 times these SIZES is beyond 32 bits
            Used great = Hand.drawn(3000, 10, "r slice(a 999999,b 999999,c 999998,d 999999)");
            dueAll(h, great, at(0, 0, 750, 10), at(750, 0, 750, 10), at(1500, 0, 749, 10), at(2249, 0, 751, 10));
        });
        s.says("and ends where the next one begins,", h -> {
            Used u = Hand.drawn(10, 3, "r slice(a 1,b 1,c 1,d 1,e 1,f 1,g 1)");
            int[] begins = {0, 1, 2, 4, 5, 7, 8, 10};
            for (int i = 0; i < 7; i++) {
                h.dueBox(u, i + 1, begins[i], 0, begins[i + 1] - begins[i], 3);
            }
            Used none = Hand.drawn(9, 3, "r slice(a 1,y 0,b 2)");
            dueAll(h, none, at(0, 0, 3, 3), at(3, 0, 0, 3), at(3, 0, 6, 3));
        });
        s.says("the last one at n", h -> {
            Used thirds = Hand.drawn(101, 10, "r slice(a 1,b 1,c 1)");
            h.dueBox(thirds, 3, 67, 0, 34, 10);
            Used one = Hand.drawn(101, 10, "r slice(a 7)");
            h.dueBox(one, 1, 0, 0, 101, 10);
            Used down = Hand.drawn(10, 101, "r slice(a 1,b 1,c 5)");
            h.dueBox(down, 3, 0, 28, 10, 73);
            Used none = Hand.drawn(20, 10, "r slice(a 7,z 0)");
            h.dueBox(none, 2, 20, 0, 0, 10);
        });
        // a ROW of T 0 may be joined to the next one, and no SHAPE changes: it is never of the fewest ROWS, and in all
        // other LAYINGS T 0 is S 0; so it is seen that such ITEMS do no harm, and stand in the ROWS of the others
        s.says("(if T is 0: all begin and end at 0, but the last one ends at n).", h -> {
            Used behind = Hand.drawn(50, 50, "r rows(a 1,y 0,z 0)");
            dueAll(h, behind, at(0, 0, 50, 50), at(50, 0, 0, 50), at(50, 0, 0, 50));
            Used ahead = Hand.drawn(50, 50, "r rows(y 0,z 0,a 1)");
            dueAll(h, ahead, at(0, 0, 0, 50), at(0, 0, 0, 50), at(0, 0, 50, 50));
            Used between = Hand.drawn(50, 100, "r rows(a 1,y 0,z 0,b 1)");
            h.dueLaid(between, 0, 1, 1000);
            dueAll(h, between, at(0, 0, 50, 50), at(50, 0, 0, 50), at(50, 0, 0, 50), at(0, 50, 50, 50));
        });
    }

    private static void slice(Sentences s) {
        s.says("slice: if wide is not below high, wide is PARTED for all ITEMS, each as high as the RECTANGLE;", h -> {
            Used square = Hand.drawn(100, 100, "r slice(a 1,b 2)");
            dueAll(h, square, at(0, 0, 33, 100), at(33, 0, 67, 100));
            Used wide = Hand.drawn(101, 100, "r slice(a 1,b 2)");
            dueAll(h, wide, at(0, 0, 33, 100), at(33, 0, 68, 100));
            Used inner = Hand.drawn(300, 100, "r slice(a 1,g slice(b 1,c 3))");
            dueAll(h, inner, at(0, 0, 60, 100), at(60, 0, 240, 100), at(60, 0, 60, 100), at(120, 0, 180, 100));
        });
        s.says("else high likewise.", h -> {
            Used high = Hand.drawn(99, 100, "r slice(a 1,b 2)");
            dueAll(h, high, at(0, 0, 99, 33), at(0, 33, 99, 67));
            Used turned = Hand.drawn(100, 60, "r slice(a 1,g slice(b 1,c 2))");
            dueAll(h, turned, at(0, 0, 25, 60), at(25, 0, 75, 60), at(25, 0, 25, 60), at(50, 0, 50, 60));
            Used within = Hand.drawn(100, 60, "r slice(a 1,g slice(b 1,c 2),d 2)");
            dueAll(h, within, at(0, 0, 16, 60), at(16, 0, 50, 60), at(16, 0, 50, 20), at(16, 20, 50, 40), at(66, 0, 34, 60));
        });
    }

    private static void rows(Sentences s) {
        s.says("rows: ITEMS in order are broken into ROWS, 1 or more, each of one ITEM or more that stand one behind the other.",
                h -> {
            Used one = Hand.drawn(80, 10, "r rows(a 1,b 3,c 1,d 1,e 1,f 1)");
            dueAll(h, one, at(0, 0, 10, 10), at(10, 0, 30, 10), at(40, 0, 10, 10), at(50, 0, 10, 10), at(60, 0, 10, 10),
                    at(70, 0, 10, 10));
            Used each = Hand.drawn(10, 80, "r rows(a 1,b 1,c 1,d 1,e 1,f 1,g 1,h 1)");
            for (int i = 0; i < 8; i++) {
                h.dueBox(each, i + 1, 0, i * 10, 10, 10);
            }
            Used single = Hand.drawn(70, 30, "r rows(a 5)");
            h.dueBox(single, 1, 0, 0, 70, 30);
            Used two = Hand.drawn(400, 200, "r rows(a 1,b 1,c 1,d 1,e 1,f 1,g 1,h 1)");
            for (int i = 0; i < 8; i++) {
                h.dueBox(two, i + 1, i % 4 * 100, i / 4 * 100, 100, 100);
            }
        });
        s.says("High is PARTED for all ITEMS; a ROW begins where its first ITEM does, and ends where its last one does;", h -> {
            Used column = Hand.drawn(45, 100, "r rows(a 1,b 1,c 1)");
            dueAll(h, column, at(0, 0, 45, 33), at(0, 33, 45, 33), at(0, 66, 45, 34));
            Used two = Hand.drawn(100, 67, "r rows(a 1,b 1,c 1,d 1,e 1,f 1)");
            h.dueLaid(two, 0, 1, 1030);
            dueAll(h, two, at(0, 0, 33, 33), at(33, 0, 33, 33), at(66, 0, 34, 33), at(0, 33, 33, 34), at(33, 33, 33, 34),
                    at(66, 33, 34, 34));
        });
        s.says("in it wide is PARTED for its ITEMS.", h -> {
            Used u = Hand.drawn(40, 100, "r rows(a 2,b 1,c 1,d 1)");
            h.dueBox(u, 2, 0, 40, 20, 40);
            h.dueBox(u, 3, 20, 40, 20, 40);
            Used seven = Hand.drawn(10, 30, "r rows(a 3,b 3,c 1,d 2,e 1)");
            h.dueBox(seven, 3, 0, 18, 3, 9);
            h.dueBox(seven, 4, 3, 18, 7, 9);
            Used offset = Hand.drawn(200, 100, "r slice(q 1,g rows(a 2,b 1,c 1))");
            dueAll(h, offset, at(0, 0, 40, 100), at(40, 0, 160, 100), at(40, 0, 80, 100), at(120, 0, 40, 100),
                    at(160, 0, 40, 100));
        });
        s.says("Of all breaks that with the least WORST;", h -> {
            Used two = Hand.drawn(100, 100, "r rows(a 2,b 1,c 1)");
            h.dueLaid(two, 0, 1, 2000);
            dueAll(h, two, at(0, 0, 100, 50), at(0, 50, 50, 50), at(50, 50, 50, 50));
            Used last = Hand.drawn(100, 100, "r rows(b 1,c 1,a 2)");
            dueAll(h, last, at(0, 0, 50, 50), at(50, 0, 50, 50), at(0, 50, 100, 50));
            Used four = Hand.drawn(40, 40, "r rows(a 4,b 2,c 1,d 1,e 4)");
            h.dueLaid(four, 0, 1, 3076);
            dueAll(h, four, at(0, 0, 40, 13), at(0, 13, 20, 13), at(20, 13, 10, 13), at(30, 13, 10, 13), at(0, 26, 40, 14));
            Used flat = Hand.drawn(3000, 1, "r rows(a 1)");
            h.dueLaid(flat, 0, 1, 3000000);
            // a GROUP of fewer ITEMS behind one that is laid far worse, or in one ROW alone
            Used behind = Hand.drawn(100, 100, "r slice(p rows(a 50,b 49,c 1),q rows(e 50,f 50))");
            h.dueLaid(behind, 1, 1, 50000);
            h.dueLaid(behind, 5, 1, 1000);
            h.dueBox(behind, 7, 50, 50, 50, 50);
            Used squares = Hand.drawn(150, 25, "r slice(p rows(a 1,b 1,c 1,d 1),q rows(e 1,f 1))");
            h.dueLaid(squares, 1, 1, 1000);
            h.dueLaid(squares, 6, 1, 1000);
            h.dueBox(squares, 8, 125, 0, 25, 25);
        });
        s.says("of several that with the fewest ROWS;", h -> {
            Used one = Hand.drawn(100, 100, "r rows(a 1,b 1)");
            h.dueLaid(one, 0, 1, 2000);
            dueAll(h, one, at(0, 0, 50, 100), at(50, 0, 50, 100));
            // each alone would be as good
            Used two = Hand.drawn(90, 99, "r rows(a 1,b 1,c 1)");
            h.dueLaid(two, 0, 1, 2727);
            h.dueBox(two, 3, 0, 66, 90, 33);
            Used none = Hand.drawn(1, 1, "r rows(a 1,b 1,c 1)");
            h.dueLaid(none, 0, 1, 1000000);
            dueAll(h, none, at(0, 0, 0, 1), at(0, 0, 0, 1), at(0, 0, 1, 1));
        });
        s.says("of those the one whose first ROW has the most ITEMS,", h -> {
            Used two = Hand.drawn(90, 99, "r rows(a 1,b 1,c 1)");
            dueAll(h, two, at(0, 0, 45, 66), at(45, 0, 45, 66), at(0, 66, 90, 33));
            // ROWS of 2, 2, 1 ITEMS, of 2, 1, 2 and of 1, 2, 2 are all of WORST 4000
            Used three = Hand.drawn(40, 90, "r rows(a 2,b 1,c 2,d 3,e 1)");
            h.dueLaid(three, 0, 1, 4000);
            dueAll(h, three, at(0, 0, 26, 30), at(26, 0, 14, 30), at(0, 30, 16, 50), at(16, 30, 24, 50), at(0, 80, 40, 10));
        });
        s.says("then the second, and so on.", h -> {
            // ROWS of 1, 2, 1 ITEMS and of 1, 1, 2 are both of WORST 2000
            Used second = Hand.drawn(40, 100, "r rows(a 2,b 1,c 1,d 1)");
            h.dueLaid(second, 0, 1, 2000);
            dueAll(h, second, at(0, 0, 40, 40), at(0, 40, 20, 40), at(20, 40, 20, 40), at(0, 80, 40, 20));
            // ROWS of 1, 1, 2, 1 ITEMS and of 1, 1, 1, 2 are both of WORST 3333
            Used third = Hand.drawn(10, 30, "r rows(a 3,b 3,c 1,d 2,e 1)");
            h.dueLaid(third, 0, 1, 3333);
            dueAll(h, third, at(0, 0, 10, 9), at(0, 9, 10, 9), at(0, 18, 3, 9), at(3, 18, 7, 9), at(0, 27, 10, 3));
        });
    }

    private static void cuts(Sentences s) {
        s.says("cuts: one ITEM gets the RECTANGLE.", h -> {
            Used one = Hand.drawn(70, 30, "r cuts(a 5)");
            h.dueBox(one, 1, 0, 0, 70, 30);
            h.dueLaid(one, 0, 2, 2333);
            Used inner = Hand.drawn(70, 30, "r slice(q 1,g cuts(a 5),p 1)");
            h.dueBox(inner, 3, 10, 0, 50, 30);
            Used rest = Hand.with(70, 30, "r cuts(a 5,b 5)");
            rest.rest(0, 999, false);
            rest.draw(0);
            h.dueRest(rest, 0, 0, 0, 70, 30);
        });
        s.says("Two or more: a number k of them, the first ones, and the others get a part of it each: wide (way 0) or high"
                + " (way 1) times the first ones' SIZES together, divided by the SIZES of all of them (cut;", h -> {
            Used across = Hand.drawn(101, 50, "r cuts(a 1,b 2)");
            dueAll(h, across, at(0, 0, 33, 50), at(33, 0, 68, 50));
            Used down = Hand.drawn(50, 101, "r cuts(a 1,b 2)");
            dueAll(h, down, at(0, 0, 50, 33), at(0, 33, 50, 68));
            Used firstTwo = Hand.drawn(100, 100, "r cuts(a 1,b 1,c 1)");
            h.dueLaid(firstTwo, 0, 2, 2941);
            dueAll(h, firstTwo, at(0, 0, 66, 50), at(0, 50, 66, 50), at(66, 0, 34, 100));
            Used firstOne = Hand.drawn(110, 100, "r cuts(a 2,b 1,c 1)");
            h.dueLaid(firstOne, 0, 2, 1818);
            dueAll(h, firstOne, at(0, 0, 55, 100), at(55, 0, 55, 50), at(55, 50, 55, 50));
            // 3000 times these SIZES is beyond 32 bits
            Used great = Hand.drawn(3000, 1000, "r cuts(a 999999,b 999999,c 999999)");
            dueAll(h, great, at(0, 0, 1000, 1000), at(1000, 0, 1000, 1000), at(2000, 0, 1000, 1000));
            Used thin = Hand.drawn(1, 1, "r cuts(a 1,b 1)");
            dueAll(h, thin, at(0, 0, 0, 1), at(0, 0, 1, 1));
        });
        s.says("with all of SIZE 0: 0) is the first ones' part, the rest is the others';", h -> {
            Used behind = Hand.drawn(100, 90, "r cuts(a 1,x 0,y 0,z 0)");
            dueAll(h, behind, at(0, 0, 100, 90), at(100, 0, 0, 90), at(100, 0, 0, 90), at(100, 0, 0, 90));
            h.dueLaid(behind, 0, 2, 1111);
            Used ahead = Hand.drawn(100, 90, "r cuts(y 0,z 0,a 1)");
            dueAll(h, ahead, at(0, 0, 0, 90), at(0, 0, 0, 90), at(0, 0, 100, 90));
            Used down = Hand.drawn(50, 100, "r cuts(a 1,y 0,z 0,b 1)");
            h.dueLaid(down, 0, 2, 1000);
            dueAll(h, down, at(0, 0, 50, 50), at(0, 50, 0, 50), at(0, 50, 0, 50), at(0, 50, 50, 50));
        });
        s.says("both parts are laid likewise.", h -> {
            Used four = Hand.drawn(100, 100, "r cuts(a 1,b 1,c 1,d 1)");
            dueAll(h, four, at(0, 0, 50, 50), at(0, 50, 50, 50), at(50, 0, 50, 50), at(50, 50, 50, 50));
            Used mixed = Hand.drawn(90, 60, "r cuts(a 1,b 1,c 2,d 1,e 1)");
            h.dueLaid(mixed, 0, 2, 2000);
            dueAll(h, mixed, at(0, 0, 30, 30), at(0, 30, 30, 30), at(30, 0, 30, 60), at(60, 0, 30, 30), at(60, 30, 30, 30));
            Used eight = Hand.drawn(400, 200, "r cuts(a 1,b 1,c 1,d 1,e 1,f 1,g 1,h 1)");
            for (int i = 0; i < 8; i++) {
                h.dueBox(eight, i + 1, i / 2 * 100, i % 2 * 100, 100, 100);
            }
        });
        s.says("Of all k and ways the one with the least WORST of what then comes (each part being laid so);", h -> {
            Used lastAlone = Hand.drawn(100, 100, "r cuts(a 2,b 1,c 4)");
            h.dueLaid(lastAlone, 0, 2, 1724);
            dueAll(h, lastAlone, at(0, 0, 42, 66), at(0, 66, 42, 34), at(42, 0, 58, 100));
            Used firstAlone = Hand.drawn(80, 80, "r cuts(a 4,b 4,c 1)");
            h.dueLaid(firstAlone, 0, 2, 2812);
            dueAll(h, firstAlone, at(0, 0, 35, 80), at(35, 0, 45, 64), at(35, 64, 45, 16));
            // a gets nothing whatever the cuts: the others are laid by the least WORST of their own part all the same
            Used hopeless = Hand.drawn(100, 100, "r cuts(a 1,b 100,c 50,d 50)");
            h.dueLaid(hopeless, 0, 2, 1000000);
            dueAll(h, hopeless, at(0, 0, 0, 100), at(0, 0, 50, 100), at(50, 0, 50, 50), at(50, 50, 50, 50));
            Used five = Hand.drawn(6, 5, "r cuts(a 1,b 1,c 1,d 2,e 2)");
            h.dueLaid(five, 0, 2, 1000);
            dueAll(h, five, at(0, 0, 2, 2), at(2, 0, 2, 2), at(4, 0, 2, 2), at(0, 2, 3, 3), at(3, 2, 3, 3));
            // by the other way a and b together would get nothing
            Used high = Hand.drawn(20, 60, "r cuts(a 1,b 1,c 40)");
            h.dueLaid(high, 0, 2, 5000);
            dueAll(h, high, at(0, 0, 10, 2), at(10, 0, 10, 2), at(0, 2, 20, 58));
            Used wide = Hand.drawn(60, 20, "r cuts(a 1,b 1,c 40)");
            dueAll(h, wide, at(0, 0, 2, 10), at(0, 10, 2, 10), at(2, 0, 58, 20));
            // the part of a and b is 1 wide, or 1 high
            Used thin = Hand.drawn(3, 2, "r cuts(a 1,b 1,c 4)");
            h.dueLaid(thin, 0, 2, 1000);
            dueAll(h, thin, at(0, 0, 1, 1), at(0, 1, 1, 1), at(1, 0, 2, 2));
            Used low = Hand.drawn(2, 3, "r cuts(a 1,b 1,c 4)");
            h.dueLaid(low, 0, 2, 1000);
            dueAll(h, low, at(0, 0, 1, 1), at(1, 0, 1, 1), at(0, 1, 2, 2));
            Used line = Hand.drawn(1, 3, "r cuts(a 1,b 1,c 1)");
            dueAll(h, line, at(0, 0, 1, 1), at(0, 1, 1, 1), at(0, 2, 1, 1));
            Used flat = Hand.drawn(3000, 1, "r cuts(a 1,b 1)");
            h.dueLaid(flat, 0, 2, 1500000);
            dueAll(h, flat, at(0, 0, 1500, 1), at(1500, 0, 1500, 1));
        });
        s.says("of several the least k,", h -> {
            // k 1 and k 2, both by way 1, are of WORST 3000
            Used one = Hand.drawn(90, 100, "r cuts(a 3,b 4,c 3)");
            h.dueLaid(one, 0, 2, 3000);
            dueAll(h, one, at(0, 0, 90, 30), at(0, 30, 51, 70), at(51, 30, 39, 70));
            // k 1 by way 1 and k 2 by way 0 are of WORST 4000
            Used way = Hand.drawn(60, 120, "r cuts(a 1,b 3,c 4)");
            h.dueLaid(way, 0, 2, 4000);
            dueAll(h, way, at(0, 0, 60, 15), at(0, 15, 60, 45), at(0, 60, 60, 60));
            Used four = Hand.drawn(20, 30, "r cuts(a 2,b 1,c 1,d 2)");
            h.dueLaid(four, 0, 2, 2000);
            dueAll(h, four, at(0, 0, 20, 10), at(0, 10, 10, 10), at(0, 20, 10, 10), at(10, 10, 10, 20));
        });
        s.says("then way 0.", h -> {
            Used two = Hand.drawn(100, 100, "r cuts(a 1,b 1)");
            dueAll(h, two, at(0, 0, 50, 100), at(50, 0, 50, 100));
            // k 2 is of WORST 1333 by both ways
            Used four = Hand.drawn(30, 40, "r cuts(a 1,b 1,c 1,d 1)");
            h.dueLaid(four, 0, 2, 1333);
            dueAll(h, four, at(0, 0, 15, 20), at(0, 20, 15, 20), at(15, 0, 15, 20), at(15, 20, 15, 20));
            Used upright = Hand.drawn(200, 400, "r cuts(a 1,b 1,c 1,d 1,e 1,f 1,g 1,h 1)");
            // two by two from above, but the last four, of 200 by 200, by way 0
            for (int i = 0; i < 4; i++) {
                h.dueBox(upright, i + 1, i % 2 * 100, i / 2 * 100, 100, 100);
                h.dueBox(upright, i + 5, i / 2 * 100, i % 2 * 100 + 200, 100, 100);
            }
        });
    }

    /** A GROUP that is drawn, and drawn again with a PRICE and in another SHEET. */
    private static Used twice(String text, int wide, int high, int price, int wideThen, int highThen) {
        Used u = Hand.with(wide, high, text);
        u.price(price);
        u.draw(0);
        u.sheet(wideThen, highThen);
        u.draw(0);
        return u;
    }

    /** A GROUP in three DRAWINGS, of two SHEETS and a last one; in the second its SMALL ones are PUT TOGETHER. */
    private static Used hiddenBetween(String text, int price, int[] sheets, int wide, int high) {
        Used u = Hand.with(sheets[0], sheets[1], text);
        u.price(price);
        u.draw(0);
        u.sheet(sheets[2], sheets[3]);
        u.rest(0, 300, false);
        u.draw(0);
        u.sheet(wide, high);
        u.rest(0, 300, true);
        u.draw(0);
        return u;
    }

    private static void best(Sentences s) {
        s.says("best: of slice (0), rows (1), cuts (2) the one with the least of WORST and PRICE times MOVES divided by 100"
                + " (cut) together;", h -> {
            h.dueLaid(Hand.drawn(300, 100, "r best(a 1,b 1,c 1)"), 0, 0, 1000);
            h.dueLaid(Hand.drawn(100, 100, "r best(a 2,b 1,c 1)"), 0, 1, 2000);
            h.dueLaid(Hand.drawn(110, 100, "r best(a 2,b 1,c 1)"), 0, 2, 1818);
            // rows: 2200, and 30 MOVES; cuts: 1818, and 325 MOVES
            int[][] priced = {{0, 2}, {1, 2}, {129, 2}, {130, 1}, {1000, 1}};
            for (int[] one : priced) {
                Used u = twice("r best(a 2,b 1,c 1)", 100, 100, one[0], 110, 100);
                h.dueLaid(u, 0, one[1], one[1] == 1 ? 2200 : 1818);
            }
            // all of WORST 3000; 400, 348, 310 MOVES: 3004, 3003, 3003 with PRICE 1
            h.dueLaid(twice("r best(a 3,b 4,c 3)", 80, 30, 1, 90, 100), 0, 1, 3000);
            h.dueLaid(twice("r best(a 3,b 4,c 3)", 80, 30, 3, 90, 100), 0, 2, 3000);
            h.dueLaid(twice("r best(a 3,b 4,c 3)", 80, 30, 0, 90, 100), 0, 0, 3000);
            // all of WORST 1875; 76, 76, 74 MOVES: 22 each with PRICE 30; one more or less, and cuts would be it
            h.dueLaid(twice("r best(a 1,b 2,c 3)", 80, 40, 30, 100, 30), 0, 0, 1875);
            // 5000, 2500, 2500; 540, 520, 532 MOVES: 5270, 2760, 2766
            h.dueLaid(twice("r best(a 2,b 1,c 2)", 200, 20, 50, 40, 40), 0, 1, 2500);
        });
        s.says("of several the least number.", h -> {
            h.due("all three", Hand.drawn(100, 100, "r best(a 1,b 1)").box(0, 6), 0);
            h.due("an only ITEM", Hand.drawn(100, 100, "r best(a 1)").box(0, 6), 0);
            Used two = Hand.drawn(100, 100, "r best(a 1,b 1,c 1,d 1)");
            h.dueLaid(two, 0, 1, 1000);
            dueAll(h, two, at(0, 0, 50, 50), at(50, 0, 50, 50), at(0, 50, 50, 50), at(50, 50, 50, 50));
            // 1489 each: 1481 and 3 times 290, 290, 288 divided by 100 (cut)
            h.due("with MOVES", twice("r best(a 1,b 1,c 2)", 60, 30, 3, 40, 110).box(0, 6), 0);
            h.due("nothing moves", twice("r best(a 1,b 1)", 100, 100, 1000, 100, 100).box(0, 6), 0);
        });
        s.says("MOVES: of all CHILDREN that are ITEMS,", h -> {
            // all of WORST 2000; 540, 560, 620 MOVES, and with the REST it would be 960, 880, 940
            Used rest = Hand.with(120, 40, "r best(a 2,b 2,c 2,d 1,e 1)");
            rest.rest(0, 200, false);
            rest.price(10);
            rest.draw(0);
            rest.sheet(100, 200);
            rest.draw(0);
            h.due("PUT TOGETHER", rest.restOf(0, 6), 2);
            h.dueLaid(rest, 0, 0, 2000);
            // the same ITEMS without a REST: the last one counts
            h.dueLaid(twice("r best(a 2,b 2,c 2,d 2)", 120, 40, 10, 100, 200), 0, 1, 2000);
            // the first one counts: 243, 149, 342 MOVES
            h.dueLaid(twice("r best(a 1,b 3,c 2)", 80, 110, 300, 80, 60), 0, 1, 4000);
            // CHILDREN of a GROUP within it do not count, and a GROUP does
            String inner = "r best(g slice(x 1,y 1),b 1,c 1)";
            h.dueLaid(twice(inner, 100, 100, 129, 110, 100), 0, 2, 1818);
            h.dueLaid(twice(inner, 100, 100, 130, 110, 100), 0, 1, 2200);
        });
        s.says("and were SHOWN in the DRAWING before,", h -> {
            Used first = Hand.with(110, 100, "r best(a 2,b 1,c 1)");
            first.price(1000);
            first.draw(0);
            h.dueLaid(first, 0, 2, 1818);
            // in the second one b and c are PUT TOGETHER, so in the third a alone counts
            Used hidden = hiddenBetween("r best(a 2,b 1,c 1)", 10, at(200, 60, 100, 30), 100, 100);
            h.due("PUT TOGETHER then", hidden.moved(2), -1);
            h.dueLaid(hidden, 0, 1, 2000);
            // 4583, 1818, 1527 and 3 times 148, 56, 148; with b and c, from wherever, it would be rows
            Used other = hiddenBetween("r best(a 3,b 1,c 1)", 300, at(80, 200, 200, 10), 120, 110);
            h.due("PUT TOGETHER then", other.moved(2), -1);
            h.dueLaid(other, 0, 2, 1527);
            // of another TREE nothing was SHOWN
            Used another = Hand.drawn(100, 100, "r best(a 2,b 1,c 1)");
            another.price(1000);
            Hand.tree(another, "r best(a 2,b 1,c 1)");
            another.sheet(110, 100);
            another.draw(0);
            h.dueLaid(another, 0, 2, 1818);
            Used same = twice("r best(a 2,b 1,c 1)", 100, 100, 130, 110, 100);
            same.draw(0);
            h.dueLaid(same, 0, 1, 2200);
            same.price(0);
            same.draw(0);
            h.dueLaid(same, 0, 2, 1818);
            same.price(1000);
            same.draw(0);
            h.due("the DRAWING before alone", same.box(0, 6), 2);
        });
        s.says("how far x, y, x and wide, y and high are from those then, all four together.", h -> {
            // 4615, 4000, 3533 and 3 times 243, 149, 342: by x, y, or x and wide less it would be cuts
            h.dueLaid(twice("r best(a 1,b 3,c 2)", 80, 110, 300, 80, 60), 0, 1, 4000);
            // 3000 each, and 430, 320, 340 halves: by y and high less it would be cuts
            h.dueLaid(twice("r best(a 1,b 2,c 1)", 100, 60, 50, 90, 120), 0, 1, 3000);
            // 3939 each, and 3 times 650, 683, 650
            h.dueLaid(twice("r best(a 1,b 3,c 2)", 20, 80, 300, 130, 200), 0, 0, 3939);
            Used far = twice("r best(a 1,b 1)", 3000, 1, 1000, 1, 3000);
            h.dueLaid(far, 0, 0, 1500000);
            h.due("how far", far.moved(2), 1500 + 1500 + 2999 + 2999);
        });
    }

    private static void drawings(Sentences s) {
        s.says("A DRAWING, in a TICK: BOX 0 gets the SHEET;", h -> {
            Used u = Hand.with(30, 20, "r slice(a 1,b 2)");
            u.size(1, 5, 4);
            u.draw(4);
            h.dueBox(u, 0, 0, 0, 30, 20);
            h.dueBox(u, 1, 0, 0, 10, 20);
            u.sheet(3000, 1);
            h.dueBox(u, 0, 0, 0, 30, 20);
            u.draw(5);
            h.dueBox(u, 0, 0, 0, 3000, 1);
            h.dueBox(u, 1, 0, 0, 2000, 1);
            h.due("SIZE in its TICK", u.box(0, 4), 6);
        });
        s.says("each GROUP that gets a RECTANGLE lays its ITEMS in it.", h -> {
            Used u = Hand.drawn(400, 200, "r slice(q 1,a slice(b rows(c cuts(d best(e slice(f 1,g 1)))),p 1))");
            h.dueBox(u, 2, 100, 0, 300, 200);
            h.dueBox(u, 3, 100, 0, 200, 200);
            h.dueBox(u, 6, 100, 0, 200, 200);
            h.dueBox(u, 7, 100, 0, 100, 200);
            h.dueBox(u, 8, 200, 0, 100, 200);
            h.dueBox(u, 9, 300, 0, 100, 200);
            int[] laid = {0, -1, 0, 1, 2, 0, 0, -1, -1, -1};
            for (int b = 0; b < laid.length; b++) {
                h.due("laid " + b, u.box(b, 6), laid[b]);
            }
        });
        s.says("BOXES that are ITEMS of GROUPS that are SHOWN are SHOWN, and BOX 0;", h -> {
            Used u = Hand.drawn(100, 10, "r slice(a 1,g rows(b 1,k cuts(c 0)),d 0)");
            h.due("all are SHOWN", u.count(5), 7);
            for (int b = 0; b < 7; b++) {
                h.due("x of " + b, u.box(b, 0) >= 0, true);
            }
            Used none = Hand.with(100, 10, "r slice(a 1,b 1)");
            none.rest(0, 999, false);
            none.draw(0);
            h.due("BOX 0 alone", none.count(5), 1);
            h.dueBox(none, 0, 0, 0, 100, 10);
        });
        s.says("those that are PUT TOGETHER aren't.", h -> {
            Used u = Hand.with(100, 10, "r slice(a 1,b 1,c 8,g slice(d 1,e 1,f 8))");
            u.rest(4, 200, false);
            u.draw(0);
            boolean[] shown = {true, true, true, true, true, false, false, true};
            for (int b = 0; b < shown.length; b++) {
                h.due("SHOWN " + b, u.box(b, 2) != -1, shown[b]);
            }
            h.due("SHOWN", u.count(5), 6);
            u.rest(0, 60, false);
            u.rest(4, 0, false);
            u.draw(0);
            boolean[] then = {true, false, false, true, true, true, true, true};
            for (int b = 0; b < then.length; b++) {
                h.due("SHOWN then " + b, u.box(b, 2) != -1, then[b]);
            }
            // more DRAWINGS than are kept, and in the last one they are PUT TOGETHER once more
            u.rest(0, 0, false);
            for (int d = 2; d < 60; d++) {
                u.draw(0);
            }
            u.rest(0, 60, false);
            u.draw(0);
            for (int b = 0; b < then.length; b++) {
                h.due("SHOWN at last " + b, u.box(b, 2) != -1, then[b]);
            }
        });
        s.says("DRAWINGS are numbered from 0 on;", h -> {
            Used u = Hand.with(10, 10, "r slice(a 1)");
            for (int d = 0; d < 120; d++) {
                h.due("number", u.draw(999 - d), d);
            }
            h.due("not drawn", u.draw(1000), -1);
            h.due("the next number", u.draw(7), 120);
            Hand.tree(u, "r slice(a 1)");
            h.due("of a new TREE", u.draw(7), 0);
        });
        s.says("the latest 50 are kept.", h -> {
            Used u = Hand.with(10, 10, "r slice(a 1)");
            for (int d = 0; d < 50; d++) {
                u.sheet(10 + d, 10);
                u.draw(d);
            }
            for (int d = 0; d < 50; d++) {
                h.duePast(u, d, 1, 2, 10 + d);
            }
            h.duePast(u, 50, 0, 5, Hand.THROWN);
            u.draw(999);
            h.duePast(u, 0, 0, 5, Hand.THROWN);
            h.duePast(u, 0, 1, 2, Hand.THROWN);
            h.duePast(u, 1, 1, 2, 11);
            h.duePast(u, 50, 0, 5, 999);
            for (int d = 51; d < 160; d++) {
                u.draw(d);
            }
            h.duePast(u, 109, 0, 5, Hand.THROWN);
            for (int d = 110; d < 160; d++) {
                h.duePast(u, d, 0, 5, d);
            }
        });
        s.says("The constants: `NONE = -1`: There is none.", h -> {
            h.due("NONE", AreaSetter.NONE, -1);
            h.due("there is none", new Used().place(), AreaSetter.NONE);
        });
    }
}
