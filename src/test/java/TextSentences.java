import java.util.Arrays;

/** Sentences about the use of an object, TREES, their TEXT, and its FAULTS. */
final class TextSentences {
    private static final String EIGHT = "r slice(a 1,b 1,c 1,d 1,e 1,f 1,g 1,h 1";
    /** Up to the NAME of a BOX that is within six GROUPS. */
    private static final String SIX_DEEP = "a slice(b slice(c slice(d slice(e slice(f slice(g ";
    private static final String[] HOWS = {"slice", "rows", "cuts", "best"};

    private TextSentences() {
    }

    static void tell(Sentences s) {
        s.under("What it is");
        s.says("An object is used for at most 512 calls after it has been made; what later calls answer is free.",
                TextSentences::allCalls);
        s.under("Terms");
        tree(s);
        tokens(s);
        faults(s);
    }

    private static void tree(Sentences s) {
        s.says("A TREE has BOXES, at most 40,", h -> {
            Used u = new Used();
            h.due("forty BOXES", Hand.tree(u, thirtyNine() + ",z 1)"), 40);
            h.due("count(0)", u.count(0), 40);
            h.due("the last one's kind", u.about(39, 1), 0);
            h.due("behind the last one", u.about(40, 1), -1);
            h.due("its SIZE", u.sizeIn(39, 0), 1);
            h.due("all their SIZES", u.sizeIn(0, 0), 35);
            h.dueText(thirtyNine() + ",y 1,z 1)", -4, thirtyNine().length() + 5);
            Used last = new Used();
            h.due("the last one with the longest NAME", Hand.tree(last, thirtyNine() + ",abcdefgh 1)"), 40);
            h.due("its last letter", last.letter(39, 7), 'h');
            h.due("its number", Hand.named(last, "abcdefgh"), 39);
        });
        s.says("numbered from 0 on as they are met along its text,", h -> {
            Used u = new Used();
            Hand.tree(u, "r slice(a 1,g rows(b 2,h cuts(c 3),d 4),e 5)");
            String[] met = {"r", "a", "g", "b", "h", "c", "d", "e"};
            for (int b = 0; b < met.length; b++) {
                h.due("letter of " + b, u.letter(b, 0), met[b].charAt(0));
                h.due("number of " + met[b], Hand.named(u, met[b]), b);
            }
        });
        s.says("the first one a GROUP, all others within it:", h -> {
            h.dueText("r 5", -3, 2);
            h.dueText("r slice(a 1)", 2, -1);
            h.dueText("r slice(a 1),b 2", -3, 12);
            h.dueText("r slice(a 1)b 2", -3, 12);
            h.dueText("r slice(a 1) q slice(b 1)", -3, 13);
            h.dueText("(a 1)", -3, 0);
        });
        s.says("LEAVES, with a SIZE, and GROUPS of 1 to 8 BOXES, their CHILDREN.", h -> {
            for (int n = 1; n <= 8; n++) {
                Used u = new Used();
                h.due("tree", Hand.tree(u, EIGHT.substring(0, 7 + n * 4) + ")"), n + 1);
                h.due("CHILDREN", u.about(0, 2), n);
            }
            h.dueText("r slice()", -3, 8);
            h.dueText("r slice", -3, 7);
            h.dueText(EIGHT + ",i 1)", -4, 40);
            h.dueText("r slice(a)", -3, 9);
            h.dueText("r slice(a 1,b)", -3, 13);
        });
        s.says("A GROUP within 5 others is the innermost that there can be.", h -> {
            Used u = new Used();
            h.due("six GROUPS", Hand.tree(u, SIX_DEEP + "1))))))"), 7);
            h.due("GROUPS round the innermost", u.about(5, 4), 5);
            h.due("its kind", u.about(5, 1), 1);
            h.due("GROUPS", u.count(1), 6);
            h.dueText(SIX_DEEP + "slice(h 1)))))))", -4, 50);
        });
        s.says("TEXT, at most 1,000 bytes: GROUP, and nothing else.", h -> {
            h.dueText("r slice(a 1)" + " ".repeat(988), 2, -1);
            h.dueText(" ".repeat(988) + "r slice(a 1)", 2, -1);
            h.dueText("r slice(a 1" + " ".repeat(988) + ")", 2, -1);
            h.dueText("r slice(a 1)" + " ".repeat(987) + "x", -3, 999);
            h.dueText("r slice(a 1" + " ".repeat(989), -3, 1000);
            h.dueText("r slice(a 1))", -3, 12);
            h.dueText("r slice(a 1)1", -3, 12);
            h.dueText("", -3, 0);
        });
        s.says("GROUP: NAME HOW [sorted] ( CHILD {, CHILD} ).", h -> {
            h.dueText("r slice(a 1)", 2, -1);
            h.dueText("r slice sorted(a 1)", 2, -1);
            h.dueText("r slice(a 1,b 2,c 3)", 4, -1);
            h.dueText("slice r(a 1)", -3, 0);
            h.dueText("r sorted slice(a 1)", -3, 2);
            h.dueText("r sorted(a 1)", -3, 2);
            h.dueText("r slice sorted sorted(a 1)", -3, 15);
            h.dueText("r slice rows(a 1)", -3, 8);
            h.dueText("r slice a 1)", -3, 8);
            h.dueText("r slice((a 1)", -3, 8);
            h.dueText("r slice(a 1,,b 2)", -3, 12);
            h.dueText("r slice(,a 1)", -3, 8);
            h.dueText("r slice(a 1,)", -3, 12);
            h.dueText("r slice(a 1 b 2)", -3, 12);
            h.dueText("r slice(a 1", -3, 11);
        });
        s.says("CHILD: GROUP | NAME NUMBER.", h -> {
            h.dueText("r slice(a 1,g rows(b 2),c 3)", 5, -1);
            h.dueText("r slice(g rows(b 2))", 3, -1);
            h.dueText("r slice(1)", -3, 8);
            h.dueText("r slice(a b 1)", -3, 10);
            h.dueText("r slice(1 a)", -3, 8);
            h.dueText("r slice(a 1 2)", -3, 12);
            h.dueText("r slice(a 1 rows(b 2))", -3, 12);
            h.dueText("r slice(g rows 1)", -3, 15);
        });
        s.says("HOW: slice | rows | cuts | best.", h -> {
            for (int how = 0; how < 4; how++) {
                Used u = new Used();
                h.due("tree", Hand.tree(u, "r " + HOWS[how] + "(g " + HOWS[3 - how] + "(a 1))"), 3);
                h.due("HOW", u.about(0, 5), how);
                h.due("HOW", u.about(1, 5), 3 - how);
            }
            for (String no : new String[] {"slic", "slices", "row", "rowss", "cut", "bests", "bes", "s", "rest", "sorted"}) {
                h.dueText("r " + no + "(a 1)", -3, 2);
            }
        });
    }

    private static void tokens(Sentences s) {
        s.says("TOKENS, blanks (32, 10) between where one likes:", h -> {
            h.dueText("r slice sorted(a1,b rows(c2))", 4, -1);
            h.dueText(" \n\n r \n slice\nsorted  (  a\n1 ,\n b  rows ( c\n\n2 ) \n ) \n", 4, -1);
            h.dueText("\nr\nslice\n(\na\n1\n)\n", 2, -1);
            for (int c = 0; c < 256; c++) {
                boolean isBlank = c == 32 || c == 10;
                h.dueText("r slice(a 1)" + (char) c, isBlank ? 2 : -3, isBlank ? -1 : 12);
            }
            h.dueText("r sl ice(a 1)", -3, 2);
            h.dueText("r slice(a b 1)", -3, 10);
            h.dueText("r slice(a 1 2)", -3, 12);
            h.dueText("rslice(a 1)", -3, 6);
        });
        s.says("WORDS (small letters, as many as stand together;", h -> {
            h.dueText("a slice(z 1,az 2,za 3)", 4, -1);
            h.dueText("r slicesorted(a 1)", -3, 2);
            h.dueText("r slice sortedsorted(a 1)", -3, 8);
            for (char c : new char[] {'`', '{', '@', 'A', 'Z', '[', '_', '-', (char) 223, (char) 225, (char) 255}) {
                h.dueText("r slice(" + c + " 1)", -3, 8);
                h.dueText("r slice(b" + c + " 1)", -3, 9);
            }
            h.dueText("R slice(a 1)", -3, 0);
            h.dueText("r Slice(a 1)", -3, 2);
        });
        s.says("a NAME is one of 1 to 8 letters, but none of sorted, slice, rows, cuts, best),", h -> {
            for (int n = 1; n <= 10; n++) {
                String name = "abcdefghij".substring(0, n);
                h.dueText(name + " slice(x 1)", n <= 8 ? 2 : -3, n <= 8 ? -1 : 0);
                h.dueText("x slice(" + name + " 1)", n <= 8 ? 2 : -3, n <= 8 ? -1 : 8);
            }
            h.dueText("x slice(" + "a".repeat(900) + " 1)", -3, 8);
            for (String no : new String[] {"sorted", "slice", "rows", "cuts", "best"}) {
                h.dueText(no + " slice(a 1)", -3, 0);
                h.dueText("r slice(" + no + " 1)", -3, 8);
                h.dueText("r slice(" + no + " rows(a 1))", -3, 8);
                h.dueText("r slice(" + no + "s 1," + no.substring(1) + " 2," + no.substring(0, 3) + " 3)", 4, -1);
            }
        });
        s.says("NUMBERS (1 to 6 digits),", h -> {
            String[] right = {"0", "9", "10", "000000", "000007", "999999", "100000", "09"};
            for (String n : right) {
                Used u = new Used();
                h.due("tree with " + n, Hand.tree(u, "r slice(a " + n + ")"), 2);
                h.due("SIZE " + n, u.sizeIn(1, 0), Integer.parseInt(n));
            }
            String[] wrong = {"0000000", "0000001", "1000000", "9999999", "4294967297", "18446744073709551617"};
            for (String n : wrong) {
                h.dueText("r slice(a " + n + ")", -3, 10);
            }
            h.dueText("r slice(a )", -3, 10);
            h.dueText("r slice(a /)", -3, 10);
            h.dueText("r slice(a :)", -3, 10);
            h.dueText("r slice(a -1)", -3, 10);
            h.dueText("r slice(a 1.5)", -3, 11);
        });
        s.says("SIGNS ( ) and , .", h -> {
            h.dueText("r slice(a 1,b 2)", 3, -1);
            h.dueText("r slice[a 1)", -3, 7);
            h.dueText("r slice{a 1)", -3, 7);
            h.dueText("r slice(a 1;b 2)", -3, 11);
            h.dueText("r slice(a 1.b 2)", -3, 11);
            h.dueText("r slice(a 1]", -3, 11);
            h.dueText("r slice(a 1}", -3, 11);
            h.dueText("r slice'a 1)", -3, 7);
            h.dueText("r slice*a 1)", -3, 7);
        });
    }

    private static void faults(Sentences s) {
        s.says("FAULTS, the first from the left,", h -> {
            h.dueText("r slice(a 1,a 2,?", -5, 12);
            h.dueText("r slice(a 1,a", -5, 12);
            h.dueText("r slice(? 1,a 1,a 2)", -3, 8);
            h.dueText(EIGHT + ",i 1,?", -4, 40);
            h.dueText("r slice(a 1,b 1,c 1,d 1,a 1,f 1,g 1,h 1,i 1)", -5, 24);
            h.dueText("a slice(b slice(c slice(d slice(e slice(f slice(a slice(", -5, 48);
            h.dueText(SIX_DEEP + "slice(a 1", -4, 50);
        });
        s.says("of one place the least:", h -> {
            h.dueText(EIGHT + ",a 1)", -4, 40);
            h.dueText(EIGHT + ",best 1)", -3, 40);
            h.dueText(EIGHT + ",abcdefghi 1)", -3, 40);
            h.dueText(EIGHT + ",1)", -3, 40);
            h.dueText(thirtyNine() + ",y 1,r 1)", -4, thirtyNine().length() + 5);
            h.dueText(thirtyNine() + ",y 1,rows 1)", -3, thirtyNine().length() + 5);
            h.dueText(SIX_DEEP + "sorted(h 1)))))))", -3, 50);
            h.dueText(SIX_DEEP + "slices(h 1)))))))", -3, 50);
            h.dueText(SIX_DEEP + "1234567))))))", -3, 50);
        });
        s.says("1 a byte or TOKEN with which no TEXT goes on", TextSentences::noTextGoesOn);
        s.says("(a WORD, a NUMBER that is too long, at its first byte;", h -> {
            h.dueText("  abcdefghi slice(a 1)", -3, 2);
            h.dueText("r slice(abcdefghi 1)", -3, 8);
            h.dueText("r slice( abcdefghij", -3, 9);
            h.dueText("r slicx(a 1)", -3, 2);
            h.dueText("r slice sortee(a 1)", -3, 8);
            h.dueText("r slice(a 1234567)", -3, 10);
            h.dueText("r slice(a  1234567", -3, 11);
            h.dueText("r slice(a 1,b 1234567890123)", -3, 14);
        });
        s.says("the end: at how many bytes there are).", h -> {
            String[] tokens = {"r", "best", "sorted", "(", "a", "1", ",", "g", "rows", "(", "b", "22", ",", "c", "3", ")"};
            StringBuilder text = new StringBuilder();
            h.dueText("", -3, 0);
            for (String token : tokens) {
                text.append(token);
                h.dueText(text.toString(), -3, text.length());
                text.append('\n');
                h.dueText(text.toString(), -3, text.length());
            }
            h.dueText(text + ")", 5, -1);
            h.dueText("   \n", -3, 4);
            h.dueText("r slice(a 1" + " ".repeat(989), -3, 1000);
        });
        s.says("2 at the NAME of a 41st BOX,", h -> {
            String forty = thirtyNine() + ",y 1";
            h.dueText(forty + ")", 40, -1);
            h.dueText(forty + ",z 1)", -4, forty.length() + 1);
            h.dueText(forty + ", \n z", -4, forty.length() + 4);
            h.dueText(forty + ",z slice(x 1))", -4, forty.length() + 1);
            String inner = thirtyNine() + ",y slice(";
            h.dueText(inner + "z 1))", -4, inner.length());
        });
        s.says("of a 9th CHILD;", h -> {
            h.dueText(EIGHT + ")", 9, -1);
            h.dueText(EIGHT + ",i 1)", -4, 40);
            h.dueText(EIGHT + ",  i", -4, 42);
            h.dueText(EIGHT + ",i slice(x 1))", -4, 40);
            h.dueText("q rows(" + EIGHT + ",i 1))", -4, 47);
            h.dueText("q rows(" + EIGHT + "),i 1,j 1,k 1,l 1,m 1,n 1,o 1)", 17, -1);
            h.dueText("q rows(" + EIGHT + "),i 1,j 1,k 1,l 1,m 1,n 1,o 1,p 1)", -4, 76);
        });
        s.says("at the HOW of a GROUP within 6 others.", h -> {
            for (String how : HOWS) {
                h.dueText(SIX_DEEP + how + "(h 1)))))))", -4, 50);
                h.dueText(SIX_DEEP + how, -4, 50);
                h.dueText(SIX_DEEP + " \n" + how + " sorted(h 1)))))))", -4, 52);
            }
            h.dueText(SIX_DEEP + "1))))))", 7, -1);
            h.dueText(SIX_DEEP + "1,h slice(i 1)))))))", -4, 54);
            h.dueText(SIX_DEEP + "1)),h slice(i slice(j 1,k 2))))))", 11, -1);
        });
        s.says("3 a NAME that a BOX ahead has.", h -> {
            h.dueText("r slice(a 1,a 2)", -5, 12);
            h.dueText("r slice(a 1, \n a 2)", -5, 15);
            h.dueText("r slice(r 1)", -5, 8);
            h.dueText("r slice(r slice(a 1))", -5, 8);
            h.dueText("r slice(a slice(b 1),b 2)", -5, 21);
            h.dueText("r slice(a slice(b slice(a 1)))", -5, 24);
            h.dueText("r slice(abcdefgh 1,abcdefgi 2,abcdefgh 3)", -5, 30);
            h.dueText("r slice(abcdefgh 1,abcdefgi 2,abcdefg 3,bbcdefgh 4)", 5, -1);
            h.dueText("r slice(aa 1,a 2,ab 3,ba 4,aaa 5)", 6, -1);
        });
        s.says("A TEXT with a FAULT changes nothing.", h -> {
            String[] wrong = {"q rows(c 1,d 2,e", "q rows(c 1,c 2)", "q rows(c 1,d 2))",
                "q rows(z 1,b 1,c 1,d 1,e 1,f 1,g 1,h 1,i 1)", ""};
            for (String text : wrong) {
                changesNothing(h, text);
            }
        });
    }

    /** A TREE of 39 BOXES, open behind the last one; one more CHILD there is room for, and one of too many. */
    private static String thirtyNine() {
        StringBuilder text = new StringBuilder("r slice(");
        for (char g = 'a'; g < 'e'; g++) {
            text.append('g').append(g).append(" rows(");
            for (char i = 'a'; i < 'i'; i++) {
                text.append(i == 'a' ? "" : ",").append(g).append(i).append(" 1");
            }
            text.append("),");
        }
        return text.append("w 1,x 1").toString();
    }

    private static void allCalls(Hand h) {
        Used draws = Hand.with(9, 9, "r slice(a 1)");
        for (int d = 0; draws.left() > 2; d++) {
            h.due("draw " + d, draws.draw(d % 1000), d);
        }
        h.due("the last but one", draws.count(3), 505);
        h.due("the last one", draws.box(1, 2), 9);
        Used trees = new Used();
        while (trees.left() > 4) {
            h.due("tree", Hand.tree(trees, "r slice(a 1)"), 2);
        }
        h.due("place", trees.place(), -1);
        while (trees.left() > 0) {
            h.due("tree of nothing", trees.tree(), -3);
        }
        Used feeds = new Used();
        while (feeds.left() > 1) {
            feeds.feed(-1, -1, -1, -1, -1);
        }
        h.due("bytes", feeds.count(4), 1000);
    }

    /** What may stand behind the beginning of a TEXT: each byte there can be, and each TOKEN. */
    private static void noTextGoesOn(Hand h) {
        String letters = "abcdefghijklmnopqrstuvwxyz";
        goesOnWith(h, "", letters);
        goesOnWith(h, "r ", "");
        goesOnWith(h, "r slice ", "(");
        goesOnWith(h, "r slice sorted ", "(");
        goesOnWith(h, "q slice( ", letters.replace("q", ""));
        goesOnWith(h, "r slice(a ", "0123456789");
        goesOnWith(h, "r slice(a 1 ", "),");
        goesOnWith(h, "q slice(a 1, ", letters.replace("q", "").replace("a", ""));
        goesOnWith(h, "r slice(a 1) ", "");
        goesOnWith(h, "r slice(g rows(b 1) ", "),");
        tokenGoesOn(h, "", "name");
        tokenGoesOn(h, "r ", "slice", "rows", "cuts", "best");
        tokenGoesOn(h, "r slice ", "sorted", "(");
        tokenGoesOn(h, "r slice sorted ", "(");
        tokenGoesOn(h, "r slice( ", "name");
        tokenGoesOn(h, "r slice(a ", "slice", "rows", "cuts", "best", "1", "123456");
        tokenGoesOn(h, "r slice(a 1 ", ",", ")");
        tokenGoesOn(h, "r slice(a 1) ");
    }

    private static void goesOnWith(Hand h, String text, String bytes) {
        for (int c = 0; c < 256; c++) {
            boolean isBlank = c == 32 || c == 10;
            if (isBlank || bytes.indexOf(c) >= 0) {
                Used u = new Used();
                Hand.tree(u, text + (char) c);
                int place = u.place();
                h.due(text + (char) c, place == -1 || place == text.length() + 1, true);
            } else {
                // a repeated NAME would be another FAULT
                boolean isAgain = c >= 'a' && c <= 'z' && text.matches(".*[(,] ");
                h.dueText(text + (char) c, isAgain ? -5 : -3, text.length());
            }
        }
    }

    private static void tokenGoesOn(Hand h, String text, String... right) {
        String[] all = {"name", "abcdefghi", "slice", "rows", "cuts", "best", "sorted", "1", "123456", "1234567", "(", ")",
            ",", "A", "?"};
        for (String token : all) {
            boolean isRight = Arrays.asList(right).contains(token);
            Used u = new Used();
            Hand.tree(u, text + token + " ?");
            h.due("place in " + text + token + " ?", u.place(), isRight ? text.length() + token.length() + 1 : text.length());
        }
    }

    private static void changesNothing(Hand h, String text) {
        Used u = Hand.with(30, 20, "r slice(a 1,b 2)");
        u.price(130);
        u.size(1, 4, 9);
        u.rest(0, 7, true);
        u.draw(3);
        u.draw(4);
        h.due("FAULT", Hand.tree(u, text) < -2, true);
        int[] counts = {3, 1, 1, 2, 0, 3, 3333};
        for (int what = 0; what < counts.length; what++) {
            h.due("count(" + what + ")", u.count(what), counts[what]);
        }
        int[] about = {-1, 1, 2, 1, 0, 0, 0, 7, 1};
        for (int what = 0; what < about.length; what++) {
            h.due("about(0, " + what + ")", u.about(0, what), about[what]);
        }
        h.due("CHANGE", u.sizeIn(1, 4), 9);
        h.due("of the TEXT", u.sizeIn(2, 4), 2);
        h.due("NAME", u.letter(0, 0), 'r');
        h.due("NAME", Hand.named(u, "b"), 2);
        h.due("NAME", Hand.named(u, "c"), -1);
        h.dueBox(u, 1, 0, 0, 24, 20);
        h.duePast(u, 0, 1, 2, 10);
        h.due("moved", u.moved(1), 14);
        h.due("draw", u.draw(0), 2);
        h.dueBox(u, 0, 0, 0, 30, 20);
    }
}
