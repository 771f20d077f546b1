/** Sentences of promises 11 to 21: the calls that tell something. */
final class AnswerSentences {
    private AnswerSentences() {
    }

    static void tell(Sentences s) {
        box(s);
        restOf(s);
        under(s);
        lettersAndMoved(s);
        past(s);
        about(s);
        names(s);
        sizeInAndCount(s);
    }

    /** BOXES r, a, b, c, g, d; a and b are PUT TOGETHER. */
    private static Used withRest() {
        Used u = Hand.with(100, 10, "r slice(a 1,b 1,c 8,g cuts(d 10))");
        u.rest(0, 100, false);
        u.draw(0);
        return u;
    }

    private static void box(Sentences s) {
        s.under("Promise 11: box");
        s.says("Of a BOX in the latest DRAWING", h -> {
            Used u = Hand.with(100, 10, "r slice(a 1,b 1)");
            u.draw(0);
            u.sheet(200, 20);
            u.size(1, 0, 3);
            h.dueBox(u, 1, 0, 0, 50, 10);
            h.due("SIZE", u.box(1, 4), 1);
            h.due("SHAPE", u.box(1, 5), 5000);
            u.draw(0);
            h.dueBox(u, 1, 0, 0, 150, 20);
            h.due("SIZE", u.box(1, 4), 3);
            h.due("SHAPE", u.box(1, 5), 7500);
            for (int d = 2; d < 60; d++) {
                u.sheet(d, 1);
                u.draw(0);
                h.due("wide", u.box(0, 2), d);
            }
        });
        s.says("what 0 x, 1 y, 2 wide, 3 high,", h -> {
            Used u = Hand.drawn(60, 90, "r slice(a 1,g slice(b 1,c 1))");
            h.dueBox(u, 0, 0, 0, 60, 90);
            h.dueBox(u, 1, 0, 0, 60, 30);
            h.dueBox(u, 2, 0, 30, 60, 60);
            h.dueBox(u, 3, 0, 30, 30, 60);
            h.dueBox(u, 4, 30, 30, 30, 60);
        });
        s.says("4 its SIZE,", h -> {
            Used u = Hand.with(60, 90, "r slice(a 0,g slice(b 1,c 999999))");
            u.size(3, 5, 7);
            u.draw(5);
            int[] sizes = {1000006, 0, 1000006, 7, 999999};
            for (int b = 0; b < sizes.length; b++) {
                h.due("SIZE of " + b, u.box(b, 4), sizes[b]);
            }
            u.draw(4);
            h.due("in another TICK", u.box(0, 4), 1000000);
        });
        s.says("5 its SHAPE,", h -> {
            Used u = withRest();
            int[] shapes = {10000, -1, -1, 4000, 5000, 5000};
            for (int b = 0; b < shapes.length; b++) {
                h.due("SHAPE of " + b, u.box(b, 5), shapes[b]);
            }
            Used flat = Hand.drawn(1, 1, "r slice(a 1,b 1,z 0)");
            h.due("flat", flat.box(1, 5), 1000000);
            h.due("square", flat.box(2, 5), 1000);
            h.due("of SIZE 0", flat.box(3, 5), 0);
        });
        s.says("6 of a GROUP how it was laid (0 to 2; S 0: 0),", h -> {
            Used u = Hand.drawn(110, 100, "r slice(g rows(a 1))");
            h.due("slice", u.box(0, 6), 0);
            h.due("rows", u.box(1, 6), 1);
            h.due("cuts", Hand.drawn(110, 100, "r cuts(a 2,b 1,c 1)").box(0, 6), 2);
            h.due("best by slice", Hand.drawn(300, 100, "r best(a 1,b 1,c 1)").box(0, 6), 0);
            h.due("best by rows", Hand.drawn(100, 100, "r best(a 1,b 1,c 1,d 1)").box(0, 6), 1);
            h.due("best by cuts", Hand.drawn(110, 100, "r best(a 2,b 1,c 1)").box(0, 6), 2);
            for (String how : new String[] {"slice", "rows", "cuts", "best"}) {
                Used none = Hand.drawn(100, 100, "r " + how + "(a 0,b 0)");
                h.due(how + " with S 0", none.box(0, 6), 0);
                none.size(1, 1, 1);
                none.draw(1);
                int laid = how.equals("rows") ? 1 : how.equals("cuts") ? 2 : 0;
                h.due(how + " with S 1", none.box(0, 6), laid);
                none.draw(0);
                h.due(how + " with S 0 again", none.box(0, 6), 0);
            }
        });
        s.says("7 of a GROUP the WORST of its ITEMS.", h -> {
            Used u = withRest();
            h.due("of the first GROUP", u.box(0, 7), 5000);
            h.due("of the inner one", u.box(4, 7), 5000);
            Used rest = Hand.with(100, 10, "r slice(a 3,b 3,c 4)");
            rest.rest(0, 400, false);
            rest.draw(0);
            h.due("the REST's", rest.box(0, 7), 6000);
            h.due("with S 0", Hand.drawn(100, 10, "r rows(a 0)").box(0, 7), 0);
            h.due("flat", Hand.drawn(1, 1, "r slice(a 1,b 1)").box(0, 7), 1000000);
            h.due("a line", Hand.drawn(3000, 1, "r slice(a 1)").box(0, 7), 3000000);
        });
        s.says("NONE: no DRAWING,", h -> {
            Used u = Hand.with(100, 10, "r slice(a 1)");
            for (int what = 0; what < 8; what++) {
                h.due("before a DRAWING", u.box(0, what), -1);
                h.due("before a DRAWING", u.box(1, what), -1);
            }
            u.draw(0);
            Hand.tree(u, "r slice(a 1)");
            for (int what = 0; what < 8; what++) {
                h.due("of another TREE", u.box(0, what), -1);
            }
        });
        s.says("no such BOX, what,", h -> {
            Used u = withRest();
            for (int wrong : Hand.outside(0, 5)) {
                h.due("x of BOX " + wrong, u.box(wrong, 0), -1);
                h.due("SIZE of BOX " + wrong, u.box(wrong, 4), -1);
                h.due("WORST of BOX " + wrong, u.box(wrong, 7), -1);
            }
            for (int wrong : Hand.outside(0, 7)) {
                h.due("what " + wrong, u.box(0, wrong), -1);
                h.due("what " + wrong + " of one that is not SHOWN", u.box(1, wrong), -1);
                h.due("what " + wrong + " of a LEAF", u.box(3, wrong), -1);
            }
            Used after = Hand.drawn(9, 9, "r slice(a 1,b 1,c 1)");
            Hand.tree(after, "r slice(a 1)");
            after.draw(0);
            h.due("a BOX of the TREE before", after.box(2, 4), -1);
        });
        s.says("not SHOWN (4 is told then),", h -> {
            Used u = Hand.with(100, 10, "r slice(a 1,b 2,c 8)");
            u.draw(0);
            h.due("SHOWN", u.box(1, 0), 0);
            u.rest(0, 200, false);
            u.draw(0);
            for (int what = 0; what < 8; what++) {
                h.due("what " + what, u.box(1, what), what == 4 ? 1 : -1);
                h.due("what " + what, u.box(2, what), what == 4 ? 2 : -1);
            }
            h.due("SHOWN", u.box(3, 0), 0);
        });
        s.says("6 and 7 of a LEAF.", h -> {
            Used u = withRest();
            for (int b = 0; b < 6; b++) {
                boolean isGroup = b == 0 || b == 4;
                h.due("6 of " + b, u.box(b, 6) != -1, isGroup);
                h.due("7 of " + b, u.box(b, 7) != -1, isGroup);
            }
            Used turned = Hand.drawn(9, 9, "r slice(a rows(x 1),b 1)");
            Hand.tree(turned, "r slice(a 1,b 1)");
            turned.draw(0);
            h.due("6 of what was a GROUP", turned.box(1, 6), -1);
            h.due("7 of what was a GROUP", turned.box(1, 7), -1);
        });
    }

    private static void restOf(Sentences s) {
        s.under("Promise 12: restOf");
        s.says("Of the REST of a GROUP likewise 0 to 5,", h -> {
            Used u = Hand.with(60, 90, "r slice(q 3,g slice(a 1,b 8,c 2,d 1))");
            u.rest(2, 200, false);
            u.draw(0);
            // g is 60 by 72 at 18: b 48, then the REST of SIZE 4
            int[] all = {0, 66, 60, 24, 4, 2500};
            for (int what = 0; what < all.length; what++) {
                h.due("restOf(2, " + what + ")", u.restOf(2, what), all[what]);
            }
            u.sheet(9, 9);
            u.size(3, 0, 5);
            h.due("as it was drawn", u.restOf(2, 2), 60);
            h.due("as it was drawn", u.restOf(2, 4), 4);
            Used zero = Hand.with(50, 10, "r slice(a 0,b 0,c 5)");
            zero.rest(0, 1, false);
            zero.draw(0);
            int[] none = {50, 0, 0, 10, 0, 0};
            for (int what = 0; what < none.length; what++) {
                h.due("restOf(0, " + what + ") of SIZE 0", zero.restOf(0, what), none[what]);
            }
        });
        s.says("6 how many are PUT TOGETHER in it.", h -> {
            Used u = Hand.with(100, 10, "r slice(a 1,b 2,c 3,d 4,e 5,f 6,g 7,h 8)");
            int[][] limits = {{28, -1}, {55, -1}, {56, 2}, {83, 2}, {84, 3}, {111, 3}, {112, 4}, {139, 5}, {222, 7}, {223, 8},
                {999, 8}};
            for (int[] one : limits) {
                u.rest(0, one[0], false);
                u.draw(0);
                h.due("LIMIT " + one[0], u.restOf(0, 6), one[1]);
            }
        });
        s.says("NONE: likewise,", h -> {
            Used u = Hand.with(100, 10, "r slice(a 1,b 1,c 8,g slice(d 1,e 1,f 8))");
            u.rest(0, 60, false);
            for (int what = 0; what < 7; what++) {
                h.due("before a DRAWING", u.restOf(0, what), -1);
            }
            u.draw(0);
            for (int wrong : Hand.outside(0, 7)) {
                h.due("BOX " + wrong, u.restOf(wrong, 0), -1);
                h.due("BOX " + wrong, u.restOf(wrong, 6), -1);
            }
            for (int wrong : Hand.outside(0, 6)) {
                h.due("what " + wrong, u.restOf(0, wrong), -1);
            }
            for (int what = 0; what < 7; what++) {
                h.due("of a LEAF", u.restOf(1, what), -1);
                h.due("of a LEAF", u.restOf(3, what), -1);
            }
            Hand.tree(u, "r slice(a 1,b 1,c 8)");
            h.due("of another TREE", u.restOf(0, 6), -1);
        });
        s.says("there is none.", h -> {
            Used u = Hand.with(100, 10, "r slice(a 1,b 1,c 8,g slice(d 1,e 1,f 8))");
            u.rest(0, 60, false);
            u.draw(0);
            for (int what = 0; what < 7; what++) {
                h.due("of that GROUP", u.restOf(0, what) != -1, true);
                h.due("of the other one", u.restOf(4, what), -1);
            }
            u.rest(0, 60, true);
            u.rest(4, 101, false);
            u.draw(0);
            for (int what = 0; what < 7; what++) {
                h.due("no more", u.restOf(0, what), -1);
                h.due("of the other one", u.restOf(4, what) != -1, true);
            }
        });
    }

    private static void under(Sentences s) {
        s.under("Promise 13: under");
        s.says("The innermost BOX SHOWN in the latest DRAWING in whose RECTANGLE a point is", h -> {
            Used u = Hand.drawn(100, 10, "r slice(a 5,g slice(b 1,k slice(c 4)))");
            h.due("in a", u.under(49, 5), 1);
            h.due("in b", u.under(50, 5), 3);
            h.due("in c, which is all of k", u.under(60, 5), 5);
            u.sheet(10, 100);
            h.due("as it was drawn", u.under(99, 9), 5);
            u.draw(0);
            h.due("in the latest DRAWING", u.under(9, 99), 5);
            h.due("no more", u.under(99, 9), -1);
            Used zero = Hand.drawn(10, 10, "r slice(a 0,g slice(b 0))");
            h.due("the first GROUP alone", zero.under(0, 0), 0);
            h.due("the first GROUP alone", zero.under(9, 9), 0);
            Used thin = Hand.drawn(10, 10, "r slice(y 0,a 1,z 0)");
            h.due("not one of wide 0", thin.under(0, 0), 2);
            h.due("not one of wide 0", thin.under(9, 0), 2);
            h.due("not one of wide 0", thin.under(10, 0), -1);
        });
        s.says("(from x to x and wide, that not; y likewise);", h -> {
            Used u = Hand.drawn(60, 90, "r slice(a 1,g slice(b 1,c 1))");
            int[][] all = {{0, 0, 1}, {59, 29, 1}, {60, 29, -1}, {0, 30, 3}, {29, 30, 3}, {30, 30, 4}, {29, 89, 3}, {59, 89, 4},
                {59, 90, -1}, {60, 89, -1}, {-1, 0, -1}, {0, -1, -1}, {59, 0, 1}, {0, 89, 3}};
            for (int[] one : all) {
                h.due("under(" + one[0] + ", " + one[1] + ")", u.under(one[0], one[1]), one[2]);
            }
        });
        s.says("of a GROUP whose REST it is in 100 and its number.", h -> {
            Used u = Hand.with(100, 10, "r slice(a 1,b 1,c 8,g slice(d 1,e 1,f 8))");
            u.rest(4, 101, false);
            u.draw(0);
            h.due("in f", u.under(89, 0), 7);
            h.due("in the REST", u.under(90, 0), 104);
            h.due("in the REST", u.under(99, 9), 104);
            h.due("behind it", u.under(100, 0), -1);
            u.rest(0, 60, false);
            h.due("as it was drawn", u.under(0, 0), 1);
            u.draw(0);
            h.due("in the first GROUP's", u.under(90, 0), 100);
            h.due("in the other one", u.under(80, 0), 104);
            h.due("in c", u.under(0, 0), 3);
            h.due("in f", u.under(79, 0), 7);
            u.rest(0, 0, false);
            u.rest(4, 0, false);
            u.draw(0);
            h.due("no REST", u.under(90, 0), 7);
            Used all = Hand.with(9, 9, "r slice(a 1,b 1)");
            all.rest(0, 999, false);
            all.draw(0);
            h.due("all is the REST", all.under(0, 0), 100);
            h.due("all is the REST", all.under(8, 8), 100);
            all.size(1, 5, 0);
            all.size(2, 5, 0);
            all.draw(5);
            h.due("with S 0 there is none", all.under(8, 8), 0);
            all.draw(0);
            Hand.tree(all, "r slice(a 0)");
            all.draw(0);
            h.due("nor one of the TREE before", all.under(8, 8), 0);
            u.rest(4, 101, false);
            u.draw(0);
            h.due("a REST again", u.under(90, 0), 104);
            Hand.tree(u, "r slice(a 1,b 1,c 1,d 1)");
            u.draw(0);
            h.due("d has the number of a GROUP before", u.under(90, 0), 4);
        });
        s.says("NONE: there is none,", h -> {
            Used u = Hand.drawn(100, 10, "r slice(a 1)");
            for (int wrong : Hand.outside(0, 99)) {
                h.due("x " + wrong, u.under(wrong, 0), -1);
            }
            for (int wrong : Hand.outside(0, 9)) {
                h.due("y " + wrong, u.under(0, wrong), -1);
                h.due("both " + wrong, u.under(wrong + 100, wrong), -1);
            }
        });
        s.says("no DRAWING.", h -> {
            Used u = new Used();
            h.due("no TREE", u.under(0, 0), -1);
            Hand.tree(u, "r slice(a 1)");
            h.due("a TREE alone", u.under(0, 0), -1);
            u.draw(0);
            h.due("a DRAWING", u.under(0, 0), 1);
            Hand.tree(u, "r slice(a 1)");
            h.due("of another TREE", u.under(0, 0), -1);
        });
    }

    private static void lettersAndMoved(Sentences s) {
        s.under("Promise 14: letters");
        s.says("How many letters of its NAME fit a BOX in the latest DRAWING: as many as 6 each and 2 are not above wide,", h -> {
            Used u = Hand.with(8, 10, "abcdefgh slice(ab 1)");
            int[][] all = {{1, 0, 0}, {2, 0, 0}, {7, 0, 0}, {8, 1, 1}, {13, 1, 1}, {14, 2, 2}, {19, 2, 2}, {20, 3, 2}, {43, 6, 2},
                {44, 7, 2}, {49, 7, 2}, {50, 8, 2}, {56, 8, 2}, {3000, 8, 2}};
            for (int[] one : all) {
                u.sheet(one[0], 10);
                u.draw(0);
                h.due("of 8 in " + one[0], u.letters(0), one[1]);
                h.due("of 2 in " + one[0], u.letters(1), one[2]);
            }
            u.sheet(8, 10);
            h.due("as it was drawn", u.letters(0), 8);
        });
        s.says("if high is 10 or more;", h -> {
            Used u = Hand.with(50, 10, "abcdefgh slice(ab 1)");
            int[][] all = {{10, 8}, {11, 8}, {3000, 8}, {9, 0}, {1, 0}};
            for (int[] one : all) {
                u.sheet(50, one[0]);
                u.draw(0);
                h.due("high " + one[0], u.letters(0), one[1]);
            }
        });
        s.says("0 else, and for one that is not SHOWN.", h -> {
            Used u = Hand.with(100, 100, "r slice(a 1,b 1,c 8)");
            u.draw(0);
            h.due("SHOWN", u.letters(1), 1);
            u.rest(0, 500, false);
            u.draw(0);
            h.due("not SHOWN", u.letters(1), 0);
            h.due("not SHOWN", u.letters(2), 0);
            h.due("SHOWN", u.letters(3), 1);
            for (int d = 2; d < 51; d++) {
                u.draw(0);
            }
            h.due("not SHOWN later", u.letters(1), 0);
            Used none = Hand.drawn(100, 100, "r slice(a 0,b 1)");
            h.due("wide 0", none.letters(1), 0);
            h.due("high 9", Hand.drawn(3000, 9, "r slice(a 1)").letters(1), 0);
        });
        s.says("NONE: no DRAWING, no such BOX.", h -> {
            Used u = Hand.with(100, 100, "r slice(a 1)");
            h.due("no DRAWING", u.letters(0), -1);
            h.due("no DRAWING", u.letters(1), -1);
            u.draw(0);
            for (int wrong : Hand.outside(0, 1)) {
                h.due("BOX " + wrong, u.letters(wrong), -1);
            }
            Hand.tree(u, "r slice(a 1)");
            h.due("of another TREE", u.letters(0), -1);
        });
        s.under("Promise 15: moved");
        s.says("How far a BOX went from the DRAWING before to the latest (as in MOVES).", h -> {
            Used u = Hand.drawn(300, 100, "r slice(a 1,b 2)");
            u.sheet(100, 300);
            u.draw(0);
            h.due("r", u.moved(0), 200 + 200);
            h.due("a", u.moved(1), 0);
            h.due("b", u.moved(2), 100 + 100 + 200 + 200);
            u.sheet(90, 300);
            u.draw(0);
            h.due("from the one before alone", u.moved(2), 10);
            u.draw(0);
            h.due("nothing moved", u.moved(2), 0);
            for (int i = 0; i < 60; i++) {
                u.sheet(90 + i % 2, 300);
                u.draw(0);
                h.due("moved " + i, u.moved(0), i == 0 ? 0 : 1);
            }
            Used back = Hand.drawn(100, 40, "r slice(a 1,b 3)");
            back.size(1, 1, 9);
            back.draw(1);
            h.due("a", back.moved(1), 50);
            h.due("b", back.moved(2), 50);
            back.draw(0);
            h.due("a", back.moved(1), 50);
            h.due("b", back.moved(2), 50);
            h.due("r", back.moved(0), 0);
        });
        s.says("NONE: there are not both,", h -> {
            Used u = Hand.with(100, 100, "r slice(a 1)");
            h.due("none", u.moved(0), -1);
            u.draw(0);
            h.due("one", u.moved(0), -1);
            h.due("one", u.moved(1), -1);
            u.draw(0);
            h.due("two", u.moved(0), 0);
            Hand.tree(u, "r slice(a 1)");
            u.draw(0);
            h.due("one of another TREE", u.moved(0), -1);
        });
        s.says("no such BOX,", h -> {
            Used u = Hand.drawn(100, 100, "r slice(a 1)");
            u.draw(0);
            for (int wrong : Hand.outside(0, 1)) {
                h.due("BOX " + wrong, u.moved(wrong), -1);
            }
        });
        s.says("it is not SHOWN in both.", h -> {
            Used u = Hand.drawn(100, 100, "r slice(a 1,b 1,c 8)");
            u.rest(0, 300, false);
            u.draw(0);
            h.due("not SHOWN now", u.moved(1), -1);
            h.due("SHOWN in both", u.moved(3), 20 + 20);
            u.draw(0);
            h.due("in neither", u.moved(1), -1);
            u.rest(0, 300, true);
            u.draw(0);
            h.due("not SHOWN then", u.moved(1), -1);
            u.draw(0);
            h.due("in both", u.moved(1), 0);
        });
    }

    private static void past(Sentences s) {
        s.under("Promise 16: past");
        s.says("Of a BOX in DRAWING d what 0 x, 1 y, 2 wide, 3 high, 4 its SIZE, 5 the TICK.", h -> {
            Used u = Hand.with(100, 10, "r slice(a 1,b 1,c 8)");
            u.draw(7);
            u.size(1, 9, 11);
            u.sheet(20, 200);
            u.draw(9);
            u.draw(0);
            int[][] all = {
                {0, 0, 0, 0, 100, 10, 10, 7}, {0, 1, 0, 0, 10, 10, 1, 7}, {0, 2, 10, 0, 10, 10, 1, 7},
                {1, 1, 0, 0, 20, 110, 11, 9}, {1, 3, 0, 120, 20, 80, 8, 9}, {2, 3, 0, 40, 20, 160, 8, 0},
            };
            for (int[] one : all) {
                for (int what = 0; what < 6; what++) {
                    h.duePast(u, one[0], one[1], what, one[2 + what]);
                }
            }
        });
        s.says("NoSuchElementException: no such BOX, what,", h -> {
            Used u = Hand.drawn(100, 10, "r slice(a 1)");
            for (int wrong : Hand.outside(0, 1)) {
                for (int what = 0; what < 6; what++) {
                    h.duePast(u, 0, wrong, what, Hand.THROWN);
                }
            }
            for (int wrong : Hand.outside(0, 5)) {
                h.duePast(u, 0, 0, wrong, Hand.THROWN);
                h.duePast(u, 0, 1, wrong, Hand.THROWN);
            }
            h.duePast(u, 0, 1, 2, 100);
        });
        s.says("the DRAWING is not kept,", h -> {
            Used u = Hand.with(100, 10, "r slice(a 1)");
            h.duePast(u, 0, 0, 0, Hand.THROWN);
            h.duePast(u, 0, 0, 5, Hand.THROWN);
            u.draw(3);
            for (int wrong : Hand.outside(0, 0)) {
                h.duePast(u, wrong, 0, 5, Hand.THROWN);
                h.duePast(u, wrong, 0, 4, Hand.THROWN);
                h.duePast(u, wrong, 1, 0, Hand.THROWN);
            }
            for (int d = 1; d < 50; d++) {
                u.draw(d);
            }
            h.duePast(u, 0, 0, 5, 3);
            h.duePast(u, 50, 0, 5, Hand.THROWN);
            u.draw(50);
            h.duePast(u, 0, 0, 5, Hand.THROWN);
            h.duePast(u, 0, 0, 4, Hand.THROWN);
            h.duePast(u, 1, 0, 5, 1);
            h.duePast(u, 50, 0, 5, 50);
            h.duePast(u, 51, 0, 5, Hand.THROWN);
            Hand.tree(u, "r slice(a 1)");
            h.duePast(u, 0, 0, 5, Hand.THROWN);
            h.duePast(u, 50, 0, 5, Hand.THROWN);
            u.draw(8);
            h.duePast(u, 0, 0, 5, 8);
            h.duePast(u, 1, 0, 5, Hand.THROWN);
        });
        s.says("or it is not SHOWN there (but for 4, 5).", h -> {
            Used u = Hand.with(100, 10, "r slice(a 1,b 2,c 8)");
            u.draw(5);
            u.rest(0, 200, false);
            u.draw(6);
            u.rest(0, 0, false);
            u.draw(7);
            for (int what = 0; what < 4; what++) {
                h.duePast(u, 1, 1, what, Hand.THROWN);
                h.duePast(u, 1, 2, what, Hand.THROWN);
            }
            h.duePast(u, 1, 1, 4, 1);
            h.duePast(u, 1, 2, 4, 2);
            h.duePast(u, 1, 1, 5, 6);
            h.duePast(u, 0, 1, 2, 9);
            h.duePast(u, 2, 1, 2, 9);
            h.duePast(u, 1, 3, 2, 72);
            h.duePast(u, 1, 0, 2, 100);
        });
    }

    private static void about(Sentences s) {
        String tree = "root best sorted(ab 1,cde rows(f 2,g cuts(h 3)),i slice(j 4))";
        s.under("Promise 17: about");
        s.says("Of a BOX of the TREE", h -> {
            Used u = new Used();
            h.due("without a TREE", u.about(0, 1), -1);
            h.due("BOXES", Hand.tree(u, tree), 8);
            h.due("the first", u.about(0, 1), 1);
            h.due("the last", u.about(7, 1), 0);
            for (int wrong : Hand.outside(0, 7)) {
                for (int what = 0; what < 9; what++) {
                    h.due("about(" + wrong + ", " + what + ")", u.about(wrong, what), -1);
                }
            }
            Hand.tree(u, "r slice(a 1)");
            h.due("of the TREE before", u.about(2, 1), -1);
        });
        dueAbout(s, "what 0 its parent (NONE of the first),", 0, -1, 0, 0, 2, 2, 4, 0, 6);
        dueAbout(s, "1 its kind (0 LEAF, 1 GROUP),", 1, 1, 0, 1, 0, 1, 0, 1, 0);
        dueAbout(s, "2 CHILDREN,", 2, 3, 0, 2, 0, 1, 0, 1, 0);
        dueAbout(s, "3 letters of its NAME,", 3, 4, 2, 3, 1, 1, 1, 1, 1);
        dueAbout(s, "4 how many GROUPS it is within,", 4, 0, 1, 1, 2, 2, 3, 1, 2);
        dueAbout(s, "5 of a GROUP its HOW (0 to 3),", 5, 3, -1, 1, -1, 2, -1, 0, -1);
        dueAbout(s, "6 whether sorted (1, 0),", 6, 1, -1, 0, -1, 0, -1, 0, -1);
        dueAbout(s, "7 LIMIT,", 7, 0, -1, 999, -1, 1, -1, 0, -1);
        dueAbout(s, "8 OPEN (1, 0).", 8, 0, -1, 1, -1, 0, -1, 1, -1);
        s.says("NONE for others (5 to 8 of a LEAF).", h -> {
            Used u = new Used();
            Hand.tree(u, tree);
            for (int wrong : Hand.outside(0, 8)) {
                h.due("about(0, " + wrong + ")", u.about(0, wrong), -1);
                h.due("about(1, " + wrong + ")", u.about(1, wrong), -1);
            }
            for (int what = 5; what < 9; what++) {
                h.due("of a LEAF " + what, u.about(1, what), -1);
                h.due("of a GROUP " + what, u.about(0, what) != -1, true);
            }
        });
    }

    /** One what of the BOXES of a TREE. */
    private static void dueAbout(Sentences s, String words, int what, int... due) {
        s.says(words, h -> {
            Used u = new Used();
            Hand.tree(u, "root best sorted(ab 1,cde rows(f 2,g cuts(h 3)),i slice(j 4))");
            u.rest(2, 999, true);
            u.rest(4, 1, false);
            u.rest(6, 0, true);
            for (int b = 0; b < due.length; b++) {
                h.due("about(" + b + ", " + what + ")", u.about(b, what), due[b]);
            }
        });
    }

    private static void names(Sentences s) {
        s.under("Promise 18: letter");
        s.says("Byte i of a BOX's NAME;", h -> {
            Used u = new Used();
            Hand.tree(u, "abcdefgh slice(z 1,yxwvutsr 2)");
            for (int i = 0; i < 8; i++) {
                h.due("letter(0, " + i + ")", u.letter(0, i), 97 + i);
                h.due("letter(2, " + i + ")", u.letter(2, i), 121 - i);
            }
            h.due("letter(1, 0)", u.letter(1, 0), 122);
        });
        s.says("NONE.", h -> {
            Used u = new Used();
            h.due("without a TREE", u.letter(0, 0), -1);
            Hand.tree(u, "abcdefgh slice(z 1,yx 2)");
            for (int wrong : Hand.outside(0, 7)) {
                h.due("letter(0, " + wrong + ")", u.letter(0, wrong), -1);
            }
            for (int wrong : Hand.outside(0, 2)) {
                h.due("letter(" + wrong + ", 0)", u.letter(wrong, 0), -1);
            }
            for (int i = 1; i < 9; i++) {
                h.due("letter(1, " + i + ")", u.letter(1, i), -1);
                h.due("letter(2, " + (i + 1) + ")", u.letter(2, i + 1), -1);
            }
            Hand.tree(u, "r slice(a 1)");
            h.due("of the TREE before", u.letter(0, 1), -1);
            h.due("of the TREE before", u.letter(2, 0), -1);
        });
        s.under("Promise 19: named");
        s.says("The BOX of the NAME that the TAPE is", h -> {
            Used u = new Used();
            Hand.tree(u, "root slice(ab 1,a 2,abc 3,abcdefgh 4,g rows(ba 5))");
            String[] names = {"root", "ab", "a", "abc", "abcdefgh", "g", "ba"};
            for (int b = 0; b < names.length; b++) {
                h.due(names[b], Hand.named(u, names[b]), b);
            }
            Hand.tree(u, "ab slice(root 1)");
            h.due("in another TREE", Hand.named(u, "ab"), 0);
            h.due("in another TREE", Hand.named(u, "root"), 1);
        });
        // blanks are no part of a NAME; so with them the TAPE is none
        s.says("(empty then; without blanks);", h -> {
            Used u = new Used();
            Hand.tree(u, "root slice(ab 1,a 2)");
            for (String text : new String[] {"ab", "zz", "ab ", " ab", "a b", "ab\n", "?"}) {
                Hand.put(u, text);
                h.due("bytes", u.count(4), text.length());
                h.due("named " + text, u.named(), text.equals("ab") ? 1 : -1);
                h.due("bytes then", u.count(4), 0);
            }
            h.due("the TREE stays", u.count(0), 3);
            h.due("place stays", u.place(), -1);
        });
        s.says("NONE.", h -> {
            Used u = new Used();
            h.due("without a TREE", Hand.named(u, "a"), -1);
            h.due("bytes then", u.count(4), 0);
            h.due("nothing, without a TREE", u.named(), -1);
            Hand.tree(u, "root slice(ab 1,abcdefgh 2)");
            for (String text : new String[] {"", "a", "abc", "b", "abcdefghi", "abcdefg", "roots", "roo", "slice", "AB", "1", "ba",
                "a".repeat(1000)}) {
                h.due("named " + text, Hand.named(u, text), -1);
            }
            h.due("a NAME", Hand.named(u, "ab"), 1);
        });
    }

    private static void sizeInAndCount(Sentences s) {
        s.under("Promise 20: sizeIn");
        s.says("SIZE of a BOX in a TICK.", h -> {
            Used u = Hand.with(10, 10, "r slice(a 1,g rows(b 2,k cuts(c 4)),d 999999)");
            int[] first = {1000006, 1, 6, 2, 4, 4, 999999};
            for (int b = 0; b < first.length; b++) {
                h.due("sizeIn(" + b + ", 0)", u.sizeIn(b, 0), first[b]);
                h.due("sizeIn(" + b + ", 999)", u.sizeIn(b, 999), first[b]);
            }
            u.size(5, 10, 40);
            h.due("before", u.sizeIn(0, 9), 1000006);
            h.due("from then on", u.sizeIn(0, 10), 1000042);
            h.due("at last", u.sizeIn(4, 999), 40);
            u.draw(10);
            u.size(5, 10, 7);
            h.due("not that of the DRAWING", u.sizeIn(5, 10), 7);
            h.due("that of the DRAWING", u.box(5, 4), 40);
        });
        s.says("NONE: no such BOX, TICK.", h -> {
            Used u = Hand.with(10, 10, "r slice(a 1,b 2)");
            for (int wrong : Hand.outside(0, 2)) {
                h.due("BOX " + wrong, u.sizeIn(wrong, 0), -1);
            }
            for (int wrong : Hand.outside(0, 999)) {
                h.due("TICK " + wrong, u.sizeIn(0, wrong), -1);
                h.due("TICK " + wrong, u.sizeIn(1, wrong), -1);
            }
            h.due("without a TREE", new Used().sizeIn(0, 0), -1);
        });
        s.under("Promise 21: count");
        dueCount(s, "what 0 BOXES,", 0, 0, 7, 7, 7, 2);
        dueCount(s, "1 GROUPS,", 1, 0, 2, 2, 2, 1);
        dueCount(s, "2 CHANGES,", 2, 0, 2, 2, 2, 0);
        dueCount(s, "3 DRAWINGS made of this TREE,", 3, 0, 0, 1, 72, 0);
        dueCount(s, "4 bytes of the TAPE,", 4, 0, 0, 40, 40, 0);
        dueCount(s, "5 BOXES SHOWN in the latest DRAWING (0 without),", 5, 0, 0, 7, 5, 0);
        s.says("6 the greatest WORST in it (0).", h -> {
            Used u = new Used();
            h.due("new", u.count(6), 0);
            u.sheet(400, 100);
            Hand.tree(u, "r slice(g slice(a 1,b 1,c 1,d 1),k slice(e 1,f 1,p 1,q 1))");
            h.due("without a DRAWING", u.count(6), 0);
            u.draw(0);
            // r has two of 200 by 100, g and k four of 50 by 100
            h.due("of the inner ones", u.count(6), 2000);
            u.size(2, 1, 9);
            u.draw(1);
            // g is 300 wide, a 225; k 100 wide
            h.due("of the last one", u.count(6), 4000);
            u.rest(0, 999, false);
            u.size(7, 2, 999999);
            u.draw(2);
            h.due("flat", u.count(6), 1000000);
            Hand.tree(u, "r slice(a 1,b 1,c 1,d 1,e 1,f 1)");
            h.due("of another TREE", u.count(6), 0);
            u.draw(0);
            h.due("of the first one", u.count(6), 1515);
            Hand.tree(u, "r slice(g rows(a 0))");
            u.draw(0);
            h.due("with S 0", u.count(6), 0);
        });
        s.says("NONE for others.", h -> {
            Used u = new Used();
            for (int wrong : Hand.outside(0, 6)) {
                h.due("count(" + wrong + ")", u.count(wrong), -1);
            }
            Hand.tree(u, "r slice(a 1)");
            u.draw(0);
            for (int wrong : Hand.outside(0, 6)) {
                h.due("count(" + wrong + ") drawn", u.count(wrong), -1);
            }
        });
    }

    /** One what of a new object, with a TREE, with a DRAWING, with many, the latest with a REST, and with another TREE. */
    private static void dueCount(Sentences s, String words, int what, int... due) {
        s.says(words, h -> {
            Used u = new Used();
            h.due("new", u.count(what), due[0]);
            u.sheet(100, 10);
            Hand.tree(u, "r slice(a 1,b 1,c 8,g slice(d 1,e 1))");
            u.size(1, 5, 1);
            u.size(2, 6, 1);
            h.due("with a TREE", u.count(what), due[1]);
            u.draw(0);
            u.feed(0, 0, 0, 0, 0);
            u.feed(0, 0, 0, 0, 0);
            h.due("with a DRAWING", u.count(what), due[2]);
            for (int d = 0; d < 70; d++) {
                u.draw(d);
            }
            u.rest(0, 100, false);
            u.draw(0);
            h.due("with a REST", u.count(what), due[3]);
            u.end(0);
            Hand.tree(u, "q cuts(a 1)");
            h.due("with another TREE", u.count(what), due[4]);
        });
    }
}
