/** Promises 4 to 7, 17 to 19: the TAPE, the TREE that is read from it, and what is told about it. */
public final class TextTests {
    private static final Hand HAND = new Hand();

    public static void main(String[] args) {
        promise4Feed();
        promise5End();
        promise6Texts();
        promise6NotText();
        promise6TooMany();
        promise6NameAgain();
        promise6WhatStays();
        promise6TreeBehindTree();
        promise7Place();
        promise17About();
        promise18Letter();
        promise19Named();
        HAND.close("TextTests");
    }

    private static void promise4Feed() {
        Used s = new Used();
        HAND.due("feed", s.feed(0x61626364, 0x65666768, 0x20736c69, 0x63652878, 0x20312920), 20);
        HAND.due("bytes", s.count(4), 20);
        HAND.due("tree of \"abcdefgh slice(x 1) \"", s.tree(), 2);
        for (int i = 0; i < 8; i++) {
            HAND.due("letter(0, " + i + ")", s.letter(0, i), 'a' + i);
        }
        for (int i = 1; i <= 50; i++) {
            HAND.due("feed " + i, s.feed(-1, Integer.MIN_VALUE, Integer.MAX_VALUE, 0, 255), 20 * i);
        }
        HAND.due("feed over 1000", s.feed(0, 0, 0, 0, 0), -1);
        HAND.due("bytes", s.count(4), 1000);
        HAND.due("end(981)", s.end(981), 981);
        HAND.due("feed over 1000", s.feed(0, 0, 0, 0, 0), -1);
        HAND.due("bytes", s.count(4), 981);
        HAND.due("end(980)", s.end(980), 980);
        HAND.due("feed to 1000", s.feed(0, 0, 0, 0, 0), 1000);
        HAND.due("tree of no text", s.tree(), -3);
        HAND.due("place", s.place(), 0);
    }

    private static void promise5End() {
        Used s = new Used();
        HAND.due("end(0) of none", s.end(0), 0);
        HAND.due("end(1) of none", s.end(1), -1);
        s.feed(0, 0, 0, 0, 0);
        HAND.due("end(21)", s.end(21), -1);
        HAND.due("end(-1)", s.end(-1), -1);
        HAND.due("end(MIN)", s.end(Integer.MIN_VALUE), -1);
        HAND.due("end(MAX)", s.end(Integer.MAX_VALUE), -1);
        HAND.due("bytes", s.count(4), 20);
        HAND.due("end(20)", s.end(20), 20);
        HAND.due("end(3)", s.end(3), 3);
        HAND.due("bytes", s.count(4), 3);
        HAND.due("end(4)", s.end(4), -1);
        HAND.due("end(0)", s.end(0), 0);
        Hand.put(s, "r slice(a 1)zz");
        s.end(12);
        HAND.due("tree of the first bytes alone", s.tree(), 2);
    }

    private static void text(String text, int answer, int place) {
        Used s = new Used();
        String shown = text.replace("\n", "\\n");
        HAND.due("tree of \"" + shown + "\"", Hand.tree(s, text), answer);
        HAND.due("place in \"" + shown + "\"", s.place(), place);
        HAND.due("bytes then", s.count(4), 0);
        HAND.due("boxes then", s.count(0), Math.max(0, answer));
    }

    private static void promise6Texts() {
        text("r slice(a 1)", 2, -1);
        text("r rows(a 1)", 2, -1);
        text("r cuts(a 1)", 2, -1);
        text("r best(a 1)", 2, -1);
        text("r slice sorted(a 1)", 2, -1);
        text("r slice(a1,b02)", 3, -1);
        text(" \n r\nbest \n sorted ( a 000001 , b cuts ( c 999999 ) ) \n ", 4, -1);
        text("abcdefgh slice(sort 1,sorteds 2,slices 3,row 4,cut 5,bes 6)", 7, -1);
        text("r slice(a 1,b 2,c 3,d 4,e 5,f 6,g 7,h 8)", 9, -1);
        text("a slice(b slice(c slice(d slice(e slice(f slice(g 1))))))", 7, -1);
        text("a slice(b slice(c 1),d rows(e 2,f cuts(g 3)),h 4)", 8, -1);
        text("r slice(xlice 1,xows 2,xuts 3,xest 4,xorted 5)", 6, -1);
        text("zz slice(az 0,za 90,aa 09)", 4, -1);
        text("r slice(a 1)" + " ".repeat(988), 2, -1);
        Used s = new Used();
        Hand.tree(s, "r slice(a 000012,b 0,c 999999)");
        HAND.due("a", s.sizeIn(1, 0), 12);
        HAND.due("b", s.sizeIn(2, 0), 0);
        HAND.due("c", s.sizeIn(3, 0), 999999);
    }

    private static void promise6NotText() {
        text("", -3, 0);
        text("  \n", -3, 3);
        text("r", -3, 1);
        text("r ", -3, 2);
        text("r 5", -3, 2);
        text("1 slice(a 1)", -3, 0);
        text("R slice(a 1)", -3, 0);
        text(",", -3, 0);
        text("slice slice(a 1)", -3, 0);
        text("abcdefghi slice(a 1)", -3, 0);
        text("r foo(a 1)", -3, 2);
        text("r xlice(a 1)", -3, 2);
        text("r slicx(a 1)", -3, 2);
        text("r slic(a 1)", -3, 2);
        text("r ro(a 1)", -3, 2);
        text("r slice xorted(a 1)", -3, 8);
        text("r slice sorte(a 1)", -3, 8);
        text("r slice(`a 1)", -3, 8);
        text("r slice({a 1)", -3, 8);
        text("r slice(a /1)", -3, 10);
        text("r slice(a :1)", -3, 10);
        text("r slicesorted(a 1)", -3, 2);
        text("r sorted(a 1)", -3, 2);
        text("r (a 1)", -3, 2);
        text("r slice", -3, 7);
        text("r slice  ", -3, 9);
        text("r slice a 1)", -3, 8);
        text("r slice sorted sorted(a 1)", -3, 15);
        text("r slice sorted slice(a 1)", -3, 15);
        text("r slice sorted", -3, 14);
        text("r slice(", -3, 8);
        text("r slice()", -3, 8);
        text("r slice(,a 1)", -3, 8);
        text("r slice(1)", -3, 8);
        text("r slice(best 1)", -3, 8);
        text("r slice(rows 1)", -3, 8);
        text("r slice(cuts 1)", -3, 8);
        text("r slice(sorted 1)", -3, 8);
        text("r slice(abcdefghi 1)", -3, 8);
        text("r slice(a)", -3, 9);
        text("r slice(a,b 1)", -3, 9);
        text("r slice(a sorted)", -3, 10);
        text("r slice(a slic(b 1))", -3, 10);
        text("r slice(a 1234567)", -3, 10);
        text("r slice(a 0000001)", -3, 10);
        text("r slice(a 1", -3, 11);
        text("r slice(a 1 \n", -3, 13);
        text("r slice(a 1,", -3, 12);
        text("r slice(a 1,)", -3, 12);
        text("r slice(a 1 b 2)", -3, 12);
        text("r slice(a 1 2)", -3, 12);
        text("r slice(a 1(b 2))", -3, 11);
        text("r slice(a 1))", -3, 12);
        text("r slice(a 1),", -3, 12);
        text("r slice(a 1) s", -3, 13);
        text("r slice(a 1)\t", -3, 12);
        text("r slice(a 1)\r", -3, 12);
        text("r slice(a 1)" + (char) 0, -3, 12);
        text("r slice(" + (char) 225 + " 1)", -3, 8);
        text("r slice(a slice(b 1)", -3, 20);
        text("r slice(a slice(b 1) c 2)", -3, 21);
        text("r slice(a -1)", -3, 10);
        text("r slice(a 1.5)", -3, 11);
        text("r slice(a 1)" + " ".repeat(987) + "x", -3, 999);
        text("r slice(a 1" + " ".repeat(989), -3, 1000);
    }

    private static void promise6TooMany() {
        String eight = "r slice(a 1,b 1,c 1,d 1,e 1,f 1,g 1,h 1";
        text(eight + ")", 9, -1);
        text(eight + ",i 1)", -4, 40);
        text(eight + ", \n i ?", -4, 43);
        text(eight + ",a 1)", -4, 40);
        text(eight + ",best 1)", -3, 40);
        text(eight + ",abcdefghi 1)", -3, 40);
        text(eight + ",1)", -3, 40);
        text(eight + ",", -3, 40);
        String six = "a slice(b slice(c slice(d slice(e slice(f slice(g ";
        text(six + "1))))))", 7, -1);
        text(six + "slice(h 1)))))))", -4, 50);
        text(six + "rows ?", -4, 50);
        text(six + "sorted(h 1)))))))", -3, 50);
        text(six + "(h 1)))))))", -3, 50);
        StringBuilder forty = new StringBuilder("r slice(");
        for (int g = 0; g < 4; g++) {
            forty.append("g").append((char) ('a' + g)).append(" rows(");
            for (int i = 0; i < 8; i++) {
                forty.append(i == 0 ? "" : ",").append((char) ('a' + g)).append((char) ('a' + i)).append(" 1");
            }
            forty.append("),");
        }
        forty.append("x 1,y 1,z 1");
        text(forty + ")", 40, -1);
        text(forty.substring(0, forty.length() - 3) + "zzzzzzzz 1)", 40, -1);
        text(forty + ",w 1)", -4, forty.length() + 1);
        text(forty + ",x 1)", -4, forty.length() + 1);
        text(forty + ",cuts 1)", -3, forty.length() + 1);
    }

    private static void promise6NameAgain() {
        text("r slice(a 1,a 2)", -5, 12);
        text("r slice(r 1)", -5, 8);
        text("r slice(a slice(b 1),b 2)", -5, 21);
        text("r slice(a slice(a 1))", -5, 16);
        text("r slice(ab 1,a 2,abc 3,ab 4)", -5, 23);
        text("r slice(a 1,a ?", -5, 12);
        text("r slice(? 1,a 1,a 2)", -3, 8);
        text("r slice(a 1,a", -5, 12);
    }

    private static void promise6WhatStays() {
        Used s = Hand.drawn(30, 20, "r slice(a 1,b 2)");
        s.price(130);
        s.size(1, 4, 9);
        s.rest(0, 7, true);
        HAND.due("tree with a FAULT", Hand.tree(s, "q slice(c 1,d 2,e"), -3);
        HAND.due("boxes", s.count(0), 3);
        HAND.due("groups", s.count(1), 1);
        HAND.due("changes", s.count(2), 1);
        HAND.due("drawings", s.count(3), 1);
        HAND.due("bytes", s.count(4), 0);
        HAND.due("size", s.sizeIn(1, 4), 9);
        HAND.due("limit", s.about(0, 7), 7);
        HAND.due("open", s.about(0, 8), 1);
        HAND.due("letter", s.letter(0, 0), 'r');
        HAND.due("named", Hand.named(s, "b"), 2);
        HAND.dueBox(s, 1, 0, 0, 10, 20);
        HAND.due("tree without", Hand.tree(s, "q rows(c 1,d cuts(e 5))"), 4);
        HAND.due("boxes", s.count(0), 4);
        HAND.due("groups", s.count(1), 2);
        HAND.due("changes", s.count(2), 0);
        HAND.due("drawings", s.count(3), 0);
        HAND.due("shown", s.count(5), 0);
        HAND.due("worst", s.count(6), 0);
        HAND.due("size", s.sizeIn(1, 4), 1);
        HAND.due("limit", s.about(0, 7), 0);
        HAND.due("open", s.about(0, 8), 0);
        HAND.due("named", Hand.named(s, "b"), -1);
        HAND.due("box", s.box(0, 0), -1);
        HAND.due("under", s.under(0, 0), -1);
        HAND.due("moved", s.moved(0), -1);
        HAND.duePast(s, 0, 0, 0, Hand.THROWN);
        HAND.due("draw", s.draw(0), 0);
        HAND.dueBox(s, 0, 0, 0, 30, 20);
        HAND.due("moved after one", s.moved(0), -1);
    }

    /** Nothing of a TREE, or of a TEXT with a FAULT, is left in those read later. */
    private static void promise6TreeBehindTree() {
        Used s = new Used();
        for (int round = 0; round < 4; round++) {
            HAND.due("tree", Hand.tree(s, "r best sorted(aaa 1,g rows sorted(b 5,c 6),d 7,e 8)"), 7);
            s.rest(0, 5, true);
            s.rest(2, 6, true);
            if (round % 2 == 1) {
                HAND.due("FAULT", Hand.tree(s, "r best sorted(aaa 1,g rows sorted(b 5,c 6),d 7,e 8"), -3);
            }
            HAND.due("tree", Hand.tree(s, "q rows(x cuts(y 2,z 3),w slice(v 4))"), 6);
            int[][] all = {
                {-1, 1, 2, 1, 0, 1, 0, 0, 0}, {0, 1, 2, 1, 1, 2, 0, 0, 0}, {1, 0, 0, 1, 2, -1, -1, -1, -1},
                {1, 0, 0, 1, 2, -1, -1, -1, -1}, {0, 1, 1, 1, 1, 0, 0, 0, 0}, {4, 0, 0, 1, 2, -1, -1, -1, -1},
            };
            int[] sizes = {9, 5, 2, 3, 4, 4};
            for (int b = 0; b < all.length; b++) {
                for (int what = 0; what < 9; what++) {
                    HAND.due("about(" + b + ", " + what + ")", s.about(b, what), all[b][what]);
                }
                HAND.due("sizeIn(" + b + ", 0)", s.sizeIn(b, 0), sizes[b]);
            }
            HAND.due("groups", s.count(1), 3);
            HAND.due("an old NAME", Hand.named(s, "aaa"), -1);
        }
    }

    private static void promise7Place() {
        Used s = new Used();
        HAND.due("place without tree()", s.place(), -1);
        Hand.tree(s, "r slice(a 1))");
        HAND.due("place", s.place(), 12);
        s.draw(0);
        Hand.named(s, "a");
        HAND.due("place later", s.place(), 12);
        Hand.tree(s, "r slice(a 1)");
        HAND.due("place without a FAULT", s.place(), -1);
        s.tree();
        HAND.due("place of the empty TEXT", s.place(), 0);
    }

    private static void promise17About() {
        Used s = new Used();
        HAND.due("about without a TREE", s.about(0, 1), -1);
        Hand.tree(s, "root best sorted(ab 1,cde rows(f 2,g cuts(h 3)),i slice(j 4))");
        s.rest(2, 999, true);
        s.rest(4, 1, false);
        int[][] all = {
            {-1, 1, 3, 4, 0, 3, 1, 0, 0},
            {0, 0, 0, 2, 1, -1, -1, -1, -1},
            {0, 1, 2, 3, 1, 1, 0, 999, 1},
            {2, 0, 0, 1, 2, -1, -1, -1, -1},
            {2, 1, 1, 1, 2, 2, 0, 1, 0},
            {4, 0, 0, 1, 3, -1, -1, -1, -1},
            {0, 1, 1, 1, 1, 0, 0, 0, 0},
            {6, 0, 0, 1, 2, -1, -1, -1, -1},
        };
        HAND.due("boxes", s.count(0), all.length);
        for (int b = 0; b < all.length; b++) {
            for (int what = 0; what < 9; what++) {
                HAND.due("about(" + b + ", " + what + ")", s.about(b, what), all[b][what]);
            }
        }
        for (int odd : new int[] {-1, 9, Integer.MIN_VALUE, Integer.MAX_VALUE}) {
            HAND.due("about(0, " + odd + ")", s.about(0, odd), -1);
            HAND.due("about(" + odd + ", 1)", s.about(odd, 1), -1);
        }
        HAND.due("about(8, 1)", s.about(8, 1), -1);
        Hand.tree(s, "a slice(b slice(c slice(d slice(e slice(f slice(g 1))))))");
        HAND.due("innermost GROUP", s.about(5, 4), 5);
        HAND.due("LEAF in it", s.about(6, 4), 6);
    }

    private static void promise18Letter() {
        Used s = new Used();
        HAND.due("letter without a TREE", s.letter(0, 0), -1);
        Hand.tree(s, "abcdefgh slice(z 1,yx 2)");
        HAND.due("letter(0, 0)", s.letter(0, 0), 'a');
        HAND.due("letter(0, 7)", s.letter(0, 7), 'h');
        HAND.due("letter(0, 8)", s.letter(0, 8), -1);
        HAND.due("letter(1, 0)", s.letter(1, 0), 'z');
        HAND.due("letter(1, 1)", s.letter(1, 1), -1);
        HAND.due("letter(2, 1)", s.letter(2, 1), 'x');
        HAND.due("letter(2, 2)", s.letter(2, 2), -1);
        HAND.due("letter(3, 0)", s.letter(3, 0), -1);
        HAND.due("letter(-1, 0)", s.letter(-1, 0), -1);
        HAND.due("letter(0, -1)", s.letter(0, -1), -1);
        HAND.due("letter(MAX, MAX)", s.letter(Integer.MAX_VALUE, Integer.MAX_VALUE), -1);
        HAND.due("letter(0, MIN)", s.letter(0, Integer.MIN_VALUE), -1);
    }

    private static void promise19Named() {
        Used s = new Used();
        HAND.due("named without a TREE", Hand.named(s, "a"), -1);
        HAND.due("bytes then", s.count(4), 0);
        Hand.tree(s, "root slice(ab 1,a 2,abc 3,abcdefgh 4)");
        HAND.due("root", Hand.named(s, "root"), 0);
        HAND.due("bytes then", s.count(4), 0);
        HAND.due("ab", Hand.named(s, "ab"), 1);
        HAND.due("a", Hand.named(s, "a"), 2);
        HAND.due("abc", Hand.named(s, "abc"), 3);
        HAND.due("abcdefgh", Hand.named(s, "abcdefgh"), 4);
        HAND.due("abcdefghi", Hand.named(s, "abcdefghi"), -1);
        HAND.due("abcd", Hand.named(s, "abcd"), -1);
        HAND.due("blank behind", Hand.named(s, "ab "), -1);
        HAND.due("bytes then", s.count(4), 0);
        HAND.due("blank ahead", Hand.named(s, " ab"), -1);
        HAND.due("nothing", s.named(), -1);
        HAND.due("slice", Hand.named(s, "slice"), -1);
        HAND.due("long", Hand.named(s, "a".repeat(1000)), -1);
        HAND.due("place stays", s.place(), -1);
    }
}
