/** Sentences of promises 1 to 10: a new object, and the calls that change one. */
final class CallSentences {
    private CallSentences() {
    }

    static void tell(Sentences s) {
        newObject(s);
        sheetAndPrice(s);
        tape(s);
        tree(s);
        sizeAndRest(s);
        draw(s);
    }

    private static void newObject(Sentences s) {
        s.under("Promise 1: A new object");
        s.says("No TREE,", h -> {
            Used u = new Used();
            h.due("BOXES", u.count(0), 0);
            h.due("GROUPS", u.count(1), 0);
            h.due("CHANGES", u.count(2), 0);
            h.due("about", u.about(0, 1), -1);
            h.due("letter", u.letter(0, 0), -1);
            h.due("named", u.named(), -1);
            h.due("sizeIn", u.sizeIn(0, 0), -1);
            h.due("size", u.size(0, 0, 1), -1);
            h.due("rest", u.rest(0, 1, false), false);
            h.due("draw", u.draw(0), -1);
            h.due("place", u.place(), -1);
        });
        s.says("a SHEET of 600 by 400,", h -> {
            Used u = new Used();
            Hand.tree(u, "r slice(a 1)");
            u.draw(0);
            h.dueBox(u, 0, 0, 0, 600, 400);
        });
        s.says("PRICE 0,", h -> {
            // with PRICE 1 rows would be the best: 2010 and 0 to 1992 and 30
            Used u = Hand.drawn(1000, 1000, "r best(a 2,b 1,c 1)");
            u.sheet(1005, 1000);
            u.draw(0);
            h.due("laid", u.box(0, 6), 2);
            Used priced = Hand.drawn(1000, 1000, "r best(a 2,b 1,c 1)");
            priced.price(1);
            priced.sheet(1005, 1000);
            priced.draw(0);
            h.due("laid with PRICE 1", priced.box(0, 6), 1);
            // rows and cuts are of WORST 3666, and cuts moves more: with a PRICE below 0 it would be the best
            Used like = Hand.drawn(10, 120, "r best(a 3,b 1,c 4)");
            like.sheet(60, 110);
            like.draw(0);
            h.due("laid", like.box(0, 6), 1);
        });
        s.says("no DRAWINGS,", h -> {
            Used u = new Used();
            h.due("DRAWINGS", u.count(3), 0);
            h.due("SHOWN", u.count(5), 0);
            h.due("WORST", u.count(6), 0);
            h.due("box", u.box(0, 0), -1);
            h.due("restOf", u.restOf(0, 6), -1);
            h.due("under", u.under(0, 0), -1);
            h.due("letters", u.letters(0), -1);
            h.due("moved", u.moved(0), -1);
            h.duePast(u, 0, 0, 5, Hand.THROWN);
        });
        s.says("an empty TAPE.", h -> {
            Used u = new Used();
            h.due("bytes", u.count(4), 0);
            h.due("end(0)", u.end(0), 0);
            h.due("end(1)", u.end(1), -1);
            h.due("feed", u.feed(0, 0, 0, 0, 0), 20);
            Used empty = new Used();
            h.due("tree", empty.tree(), -3);
            h.due("place", empty.place(), 0);
        });
    }

    private static void sheetAndPrice(Sentences s) {
        s.under("Promise 2: sheet");
        s.says("The SHEET is wide and high (1 to 3000 each).", h -> {
            Used u = Hand.with(1, 1, "r slice(a 1)");
            int[][] right = {{1, 1}, {1, 3000}, {3000, 1}, {3000, 3000}, {2, 2999}};
            for (int[] one : right) {
                h.due("sheet(" + one[0] + ", " + one[1] + ")", u.sheet(one[0], one[1]), true);
                u.draw(0);
                h.dueBox(u, 0, 0, 0, one[0], one[1]);
                h.dueBox(u, 1, 0, 0, one[0], one[1]);
            }
        });
        s.says("False: other numbers.", h -> {
            Used u = Hand.with(70, 30, "r slice(a 1)");
            for (int wrong : Hand.outside(1, 3000)) {
                h.due("sheet(" + wrong + ", 5)", u.sheet(wrong, 5), false);
                h.due("sheet(5, " + wrong + ")", u.sheet(5, wrong), false);
                h.due("sheet(" + wrong + ", " + wrong + ")", u.sheet(wrong, wrong), false);
            }
            u.draw(0);
            h.dueBox(u, 0, 0, 0, 70, 30);
        });
        s.under("Promise 3: price");
        s.says("PRICE (0 to 1000).", h -> {
            Used u = Hand.with(100, 100, "r best(a 2,b 1,c 1)");
            h.due("price(1000)", u.price(1000), true);
            u.draw(0);
            u.sheet(110, 100);
            u.draw(0);
            h.due("laid with PRICE 1000", u.box(0, 6), 1);
            h.due("price(0)", u.price(0), true);
            u.draw(0);
            h.due("laid with PRICE 0", u.box(0, 6), 2);
            h.due("price(999)", u.price(999), true);
            h.due("price(1)", u.price(1), true);
        });
        s.says("False: another number.", h -> {
            Used u = Hand.with(100, 100, "r best(a 2,b 1,c 1)");
            u.price(130);
            for (int wrong : Hand.outside(0, 1000)) {
                h.due("price(" + wrong + ")", u.price(wrong), false);
            }
            u.draw(0);
            u.sheet(110, 100);
            u.draw(0);
            h.due("laid with PRICE 130", u.box(0, 6), 1);
            Used low = Hand.with(100, 100, "r best(a 2,b 1,c 1)");
            low.price(129);
            for (int wrong : Hand.outside(0, 1000)) {
                low.price(wrong);
            }
            low.draw(0);
            low.sheet(110, 100);
            low.draw(0);
            h.due("laid with PRICE 129", low.box(0, 6), 2);
        });
    }

    private static void tape(Sentences s) {
        s.under("Promise 4: feed");
        s.says("Twenty bytes come behind the TAPE, of each number the highest first: how many it has;", h -> {
            Used u = new Used();
            h.due("feed", u.feed(0x61626364, 0x65666768, 0x20736c69, 0x63652869, 0x6a6b206c), 20);
            h.due("feed", u.feed(0x6f727320, 0x28202031, 0x29202020, 0, 0), 40);
            h.due("bytes", u.count(4), 40);
            h.due("tree", u.tree(), -3);
            h.due("place", u.place(), 19);
            Used right = new Used();
            h.due("feed", right.feed(0x61626364, 0x65666768, 0x20736c69, 0x63652869, 0x6a6b2030), 20);
            h.due("feed", right.feed(0x31323334, 0x29202020, 0x20202020, 0x20202020, 0x2020200a), 40);
            h.due("tree", right.tree(), 2);
            String names = "abcdefghijk";
            for (int i = 0; i < names.length(); i++) {
                h.due("letter " + i, right.letter(i / 8, i % 8), names.charAt(i));
            }
            h.due("SIZE", right.sizeIn(1, 0), 1234);
            Used all = new Used();
            for (int i = 1; i <= 50; i++) {
                h.due("feed " + i, all.feed(-1, Integer.MIN_VALUE, Integer.MAX_VALUE, 0, 255), 20 * i);
            }
        });
        s.says("NONE if these would be more than 1,000.", h -> {
            Used u = new Used();
            for (int i = 0; i < 50; i++) {
                u.feed(0x20202020, 0x20202020, 0x20202020, 0x20202020, 0x20202020);
            }
            h.due("to 1020", u.feed(0, 0, 0, 0, 0), -1);
            h.due("bytes", u.count(4), 1000);
            for (int n = 999; n > 980; n--) {
                u.end(n);
                h.due("to " + (n + 20), u.feed(0, 0, 0, 0, 0), -1);
                h.due("bytes", u.count(4), n);
            }
            u.end(980);
            h.due("to 1000", u.feed(0x72207369, 0, 0, 0, 0), 1000);
            h.due("tree", u.tree(), -3);
            h.due("place: nothing else was fed", u.place(), 982);
        });
        s.under("Promise 5: end");
        s.says("The TAPE has its first n bytes alone: n;", h -> {
            Used u = new Used();
            Hand.put(u, "r slice(a 1)zz");
            h.due("end(14)", u.end(14), 14);
            h.due("end(12)", u.end(12), 12);
            h.due("bytes", u.count(4), 12);
            h.due("tree", u.tree(), 2);
            Hand.put(u, "r slice(a 1)");
            h.due("end(0)", u.end(0), 0);
            h.due("bytes", u.count(4), 0);
            h.due("feed behind", u.feed(0x6b20726f, 0x77732862, 0x2032292c, 0, 0), 20);
            h.due("end(11)", u.end(11), 11);
            h.due("tree", u.tree(), 2);
            h.due("letter", u.letter(0, 0), 'k');
        });
        s.says("NONE if it has less,", h -> {
            Used u = new Used();
            h.due("end(1) of none", u.end(1), -1);
            u.feed(0, 0, 0, 0, 0);
            h.due("end(21)", u.end(21), -1);
            h.due("end(MAX)", u.end(Integer.MAX_VALUE), -1);
            h.due("bytes", u.count(4), 20);
            u.end(3);
            h.due("end(4)", u.end(4), -1);
            h.due("end(20)", u.end(20), -1);
            h.due("bytes", u.count(4), 3);
            h.due("end(3)", u.end(3), 3);
        });
        s.says("or n is below 0.", h -> {
            Used u = new Used();
            h.due("end(-1) of none", u.end(-1), -1);
            u.feed(0, 0, 0, 0, 0);
            h.due("end(-1)", u.end(-1), -1);
            h.due("end(MIN)", u.end(Integer.MIN_VALUE), -1);
            h.due("end(-20)", u.end(-20), -1);
            h.due("bytes", u.count(4), 20);
        });
    }

    private static void tree(Sentences s) {
        s.under("Promise 6: tree");
        s.says("The TAPE (empty then) is read as a TREE,", h -> {
            Used u = new Used();
            h.due("tree", Hand.tree(u, "r slice(a 1)"), 2);
            h.due("bytes then", u.count(4), 0);
            h.due("tree again", u.tree(), -3);
            h.due("the other one stays", u.count(0), 2);
            Hand.put(u, "r slice(a 1,a");
            h.due("with a FAULT", u.tree(), -5);
            h.due("bytes then", u.count(4), 0);
            h.due("feed", u.feed(0, 0, 0, 0, 0), 20);
        });
        s.says("in place of the one there is, without CHANGES, RESTS, DRAWINGS then: how many BOXES;", h -> {
            Used u = Hand.drawn(30, 20, "r slice(a 1,g best sorted(b 2,c 3))");
            u.size(1, 0, 9);
            u.rest(0, 7, true);
            u.rest(2, 8, true);
            u.draw(0);
            h.due("BOXES", Hand.tree(u, "q rows(c 1,d cuts(e 5))"), 4);
            int[] counts = {4, 2, 0, 0, 0, 0, 0};
            for (int what = 0; what < counts.length; what++) {
                h.due("count(" + what + ")", u.count(what), counts[what]);
            }
            for (int g = 0; g < 3; g += 2) {
                h.due("LIMIT", u.about(g, 7), 0);
                h.due("OPEN", u.about(g, 8), 0);
                h.due("sorted", u.about(g, 6), 0);
            }
            h.due("SIZE", u.sizeIn(1, 999), 1);
            h.due("BOX 4", u.about(4, 1), -1);
            h.due("an old NAME", Hand.named(u, "r"), -1);
            h.due("box", u.box(0, 0), -1);
            h.due("under", u.under(0, 0), -1);
            h.due("moved", u.moved(0), -1);
            h.duePast(u, 0, 0, 5, Hand.THROWN);
            h.due("CHANGE", u.size(1, 0, 5), 0);
            h.due("draw", u.draw(0), 0);
            h.dueBox(u, 0, 0, 0, 30, 20);
            h.due("moved", u.moved(0), -1);
            treeBehindTree(h);
        });
        s.says("with a FAULT 2 less than minus its kind (-3 to -5),", h -> {
            h.due("kind 1", Hand.tree(new Used(), "r slice(a 1"), -3);
            h.due("kind 2", Hand.tree(new Used(), "r slice(a 1,b 1,c 1,d 1,e 1,f 1,g 1,h 1,i 1)"), -4);
            h.due("kind 3", Hand.tree(new Used(), "r slice(r 1)"), -5);
        });
        s.says("and all else stays.", h -> {
            Used u = Hand.with(40, 20, "r best(a 1,b 1,c 2)");
            u.price(1000);
            u.size(1, 3, 8);
            u.rest(0, 9, true);
            u.draw(0);
            h.due("FAULT", Hand.tree(u, "r slice(b 1,a"), -3);
            h.due("FAULT", Hand.tree(u, "x slice(y 1,y 2)"), -5);
            int[] counts = {4, 1, 1, 1, 0, 4};
            for (int what = 0; what < counts.length; what++) {
                h.due("count(" + what + ")", u.count(what), counts[what]);
            }
            h.due("CHANGE", u.sizeIn(1, 3), 8);
            h.due("LIMIT", u.about(0, 7), 9);
            h.due("OPEN", u.about(0, 8), 1);
            h.due("HOW", u.about(0, 5), 3);
            h.due("NAME", u.letter(1, 0), 'a');
            h.dueBox(u, 0, 0, 0, 40, 20);
            h.due("the next CHANGE", u.size(1, 4, 8), 1);
            h.due("the next DRAWING", u.draw(0), 1);
            h.dueBox(u, 0, 0, 0, 40, 20);
            h.due("moved", u.moved(1), 0);
            Used priced = Hand.drawn(100, 100, "r best(a 2,b 1,c 1)");
            priced.price(130);
            Hand.tree(priced, "?");
            priced.sheet(110, 100);
            priced.draw(0);
            h.due("PRICE", priced.box(0, 6), 1);
        });
        s.under("Promise 7: place");
        s.says("The place of the FAULT of the latest tree();", h -> {
            Used u = new Used();
            Hand.tree(u, "r slice(a 1))");
            h.due("place", u.place(), 12);
            u.draw(0);
            Hand.named(u, "a");
            h.due("later", u.place(), 12);
            Hand.tree(u, "r slice(a 1,a 2)");
            h.due("of another one", u.place(), 12);
            u.tree();
            h.due("of the empty TEXT", u.place(), 0);
            Hand.tree(u, "r");
            h.due("the end", u.place(), 1);
            Hand.put(u, "r slice(a 1)");
            h.due("before tree()", u.place(), 1);
        });
        s.says("NONE without one.", h -> {
            Used u = new Used();
            h.due("without tree()", u.place(), -1);
            Hand.tree(u, "?");
            h.due("with a FAULT", u.place(), 0);
            Hand.tree(u, "r slice(a 1)");
            h.due("without a FAULT", u.place(), -1);
        });
    }

    /** Nothing of a TREE, or of a TEXT with a FAULT, is left in those read later. */
    private static void treeBehindTree(Hand h) {
        Used u = new Used();
        String former = "r best sorted(aaa 1,b 5,g rows sorted(c 6,d 7),e 8)";
        // where a TREE is held may change with each one, so several stand between like ones
        int[] many = {1, 2, 1, 3};
        for (int round = 0; round < many.length; round++) {
            for (int i = 0; i < many[round]; i++) {
                h.due("tree", Hand.tree(u, former), 7);
                u.rest(0, 5, true);
                u.rest(3, 6, true);
            }
            if (round == 1) {
                h.due("FAULT", Hand.tree(u, former.substring(0, former.length() - 1)), -3);
            }
            h.due("tree", Hand.tree(u, "q rows(x cuts(y 2,z slice(v 4)),w slice(p 3))"), 7);
            int[][] about = {{-1, 0, 1, 1, 3, 0, 5}, {1, 1, 0, 1, 0, 1, 0}, {2, 2, 0, 1, 0, 1, 0}, {1, 1, 1, 1, 1, 1, 1},
                {0, 1, 2, 2, 3, 1, 2}, {1, 2, -1, 0, -1, 0, -1}, {0, 0, -1, 0, -1, 0, -1}, {0, 0, -1, 0, -1, 0, -1},
                {0, 0, -1, 0, -1, 0, -1}};
            int[] sizes = {9, 6, 2, 4, 4, 3, 3};
            for (int b = 0; b < sizes.length; b++) {
                for (int what = 0; what < about.length; what++) {
                    h.due("about(" + b + ", " + what + ")", u.about(b, what), about[what][b]);
                }
                h.due("SIZE of " + b, u.sizeIn(b, 0), sizes[b]);
            }
            h.due("GROUPS", u.count(1), 4);
            h.due("an old NAME", Hand.named(u, "aaa"), -1);
        }
    }

    private static void sizeAndRest(Sentences s) {
        s.under("Promise 8: size");
        s.says("A CHANGE of a LEAF from a TICK on: its number.", h -> {
            Used u = Hand.with(10, 10, "r slice(a 1,g rows(b 2))");
            h.due("the first", u.size(1, 5, 7), 0);
            h.due("the second", u.size(3, 0, 0), 1);
            h.due("the third", u.size(1, 999, 999999), 2);
            h.due("like the first", u.size(1, 5, 7), 3);
            h.due("a before", u.sizeIn(1, 4), 1);
            h.due("a from then on", u.sizeIn(1, 5), 7);
            h.due("a at last", u.sizeIn(1, 999), 999999);
            h.due("b", u.sizeIn(3, 0), 0);
            Hand.tree(u, "r slice(a 1)");
            h.due("of a new TREE", u.size(1, 5, 7), 0);
        });
        s.says("NONE: no such LEAF,", h -> {
            Used u = Hand.with(10, 10, "r slice(a 1,g rows(b 2))");
            h.due("BOX 0", u.size(0, 0, 1), -1);
            h.due("a GROUP", u.size(2, 0, 1), -1);
            for (int wrong : Hand.outside(0, 3)) {
                h.due("BOX " + wrong, u.size(wrong, 0, 1), -1);
            }
            h.due("CHANGES", u.count(2), 0);
            h.due("without a TREE", new Used().size(1, 0, 1), -1);
        });
        s.says("TICK,", h -> {
            Used u = Hand.with(10, 10, "r slice(a 1)");
            for (int wrong : Hand.outside(0, 999)) {
                h.due("TICK " + wrong, u.size(1, wrong, 1), -1);
            }
            h.due("CHANGES", u.count(2), 0);
            h.due("TICK 0", u.size(1, 0, 2), 0);
            h.due("TICK 999", u.size(1, 999, 3), 1);
        });
        s.says("SIZE,", h -> {
            Used u = Hand.with(10, 10, "r slice(a 1)");
            for (int wrong : Hand.outside(0, 999999)) {
                h.due("SIZE " + wrong, u.size(1, 0, wrong), -1);
            }
            h.due("CHANGES", u.count(2), 0);
            h.due("as before", u.sizeIn(1, 0), 1);
            h.due("SIZE 0", u.size(1, 0, 0), 0);
            h.due("SIZE 999999", u.size(1, 0, 999999), 1);
        });
        s.says("100 are there.", h -> {
            Used u = Hand.with(10, 10, "r slice(a 1,b 1)");
            for (int i = 0; i < 100; i++) {
                h.due("CHANGE " + i, u.size(1, 0, i), i);
            }
            h.due("one more", u.size(1, 0, 5), -1);
            h.due("one more", u.size(2, 999, 5), -1);
            h.due("CHANGES", u.count(2), 100);
            h.due("SIZE", u.sizeIn(1, 0), 99);
            Hand.tree(u, "r slice(a 1)");
            h.due("with a new TREE", u.size(1, 0, 5), 0);
        });
        s.under("Promise 9: rest");
        s.says("LIMIT of a GROUP, and whether it is OPEN.", h -> {
            Used u = Hand.with(100, 10, "r slice(a 1,b 1,g slice(c 1,d 1,e 6))");
            h.due("rest", u.rest(0, 999, true), true);
            h.due("rest", u.rest(3, 101, false), true);
            h.due("LIMIT", u.about(0, 7), 999);
            h.due("OPEN", u.about(0, 8), 1);
            h.due("LIMIT", u.about(3, 7), 101);
            h.due("OPEN", u.about(3, 8), 0);
            u.draw(0);
            h.due("OPEN", u.restOf(0, 6), -1);
            h.due("1000 is not less than 808", u.restOf(3, 6), -1);
            u.rest(3, 126, false);
            h.due("as it was drawn", u.restOf(3, 6), -1);
            u.draw(0);
            h.due("1000 is less than 1008", u.restOf(3, 6), 2);
            h.due("again", u.rest(0, 0, false), true);
            h.due("LIMIT", u.about(0, 7), 0);
            h.due("OPEN", u.about(0, 8), 0);
        });
        s.says("False: no such GROUP,", h -> {
            Used u = Hand.with(10, 10, "r slice(a 1,g rows(b 2))");
            h.due("a LEAF", u.rest(1, 5, true), false);
            h.due("a LEAF", u.rest(3, 5, true), false);
            for (int wrong : Hand.outside(0, 3)) {
                h.due("BOX " + wrong, u.rest(wrong, 5, true), false);
            }
            for (int g = 0; g < 3; g += 2) {
                h.due("LIMIT", u.about(g, 7), 0);
                h.due("OPEN", u.about(g, 8), 0);
            }
            h.due("without a TREE", new Used().rest(0, 5, true), false);
        });
        s.says("LIMIT.", h -> {
            Used u = Hand.with(10, 10, "r slice(a 1)");
            u.rest(0, 7, false);
            for (int wrong : Hand.outside(0, 999)) {
                h.due("LIMIT " + wrong, u.rest(0, wrong, true), false);
            }
            h.due("LIMIT", u.about(0, 7), 7);
            h.due("OPEN", u.about(0, 8), 0);
            h.due("LIMIT 0", u.rest(0, 0, true), true);
            h.due("LIMIT 999", u.rest(0, 999, true), true);
        });
    }

    private static void draw(Sentences s) {
        s.under("Promise 10: draw");
        s.says("A DRAWING in a TICK: its number.", h -> {
            Used u = Hand.with(100, 10, "r slice(a 1,b 1)");
            u.size(1, 999, 3);
            h.due("the first", u.draw(0), 0);
            h.dueBox(u, 1, 0, 0, 50, 10);
            h.due("the second", u.draw(999), 1);
            h.dueBox(u, 1, 0, 0, 75, 10);
            h.due("the third", u.draw(0), 2);
            h.dueBox(u, 1, 0, 0, 50, 10);
            h.due("DRAWINGS", u.count(3), 3);
            for (int d = 3; d < 110; d++) {
                h.due("number", u.draw(d), d);
            }
        });
        s.says("NONE: no TREE,", h -> {
            Used u = new Used();
            h.due("of none", u.draw(0), -1);
            Hand.tree(u, "r slice(a 1");
            h.due("with a FAULT", u.draw(0), -1);
            h.due("DRAWINGS", u.count(3), 0);
            Hand.tree(u, "r slice(a 1)");
            h.due("with a TREE", u.draw(0), 0);
        });
        s.says("no such TICK.", h -> {
            Used u = Hand.with(100, 10, "r slice(a 1,b 1)");
            for (int wrong : Hand.outside(0, 999)) {
                h.due("TICK " + wrong, u.draw(wrong), -1);
            }
            h.due("DRAWINGS", u.count(3), 0);
            h.due("box", u.box(0, 0), -1);
            h.due("TICK 999", u.draw(999), 0);
            u.draw(1000);
            h.duePast(u, 0, 0, 5, 999);
            h.due("moved", u.moved(0), -1);
        });
    }
}
