/** Each promise by hand: ordinary calls, the edges that the document names, and wrong ones. */
public final class PromisesTest {
    private static final int LEAST = Integer.MIN_VALUE;
    private static final int MOST = Integer.MAX_VALUE;

    private static void p01NewObject() {
        BranchedText x = new BranchedText();
        Due.due("status()", x.status(), 0);
        Due.fine("many(0)", x, x.many(0), 1);
        Due.fine("many(2)", x, x.many(2), 0);
        Due.fine("many(3)", x, x.many(3), 0);
        Due.fine("many(5)", x, x.many(5), 0);
        Due.fine("many(9)", x, x.many(9), 0);
        Due.refused("put(0) without a word", x, x.put(0), 1);
        Due.refused("out(0) ahead of any tell()", x, x.out(0), 5);
        Due.due("feed() on an empty tape", x.feed(0, 0, 0, 0, 0), 20);
    }

    private static void p02Status() {
        BranchedText x = new BranchedText();
        x.many(-1);
        Due.due("status()", x.status(), 1);
        x.feed(1, 2, 3, 4, 5);
        x.fault(0);
        x.fault(7);
        x.type(1, 0);
        x.type(31, 0);
        Due.due("status() behind calls that have none", x.status(), 1);
        Due.due("status() asked again", x.status(), 1);
        x.many(0);
        Due.due("status()", x.status(), 0);
    }

    private static void p03Feed() {
        BranchedText x = new BranchedText();
        for (int i = 1; i <= 35; i++) {
            Due.due("feed " + i, x.feed(0x20202020, 0x20202020, 0x20202020, 0x20202020, 0x20202020), 20 * i);
        }
        Due.due("feed beyond 700", x.feed(0, 0, 0, 0, 0), -1);
        Due.fine("load(700)", x, x.load(700), 1);
        Due.due("feed on the empty tape", x.feed(0x756e646f, 0x3b000000, 0, 0, 0), 20);
        Due.refused("load of 'undo;'", x, x.load(5), 9);
        Due.due("fault(0)", x.fault(0), 7);
        x.feed(0x80000000, 0xff, 0, 0, 0);
        Due.refused("load of byte 128", x, x.load(1), 9);
        Due.due("fault(0)", x.fault(0), 1);
        Due.due("fault(1)", x.fault(1), 0);
    }

    private static void p04Load() {
        BranchedText x = new BranchedText();
        Due.put(x, 0, "abc");
        Due.name(x, "abc");
        x.wait(9);
        Due.feed(x, "put 0 ab; wait 2; put 2 c;");
        Due.refused("load(-1)", x, x.load(-1), 1);
        Due.refused("load(41)", x, x.load(41), 1);
        Due.refused("load(MOST)", x, x.load(MOST), 1);
        Due.due("fault(0), no load() done", x.fault(0), -1);
        Due.fine("load(9) of the tape", x, x.load(9), 2);
        Due.fine("HERE", x, x.many(1), 1);
        Due.fine("NOW", x, x.many(2), 0);
        Due.fine("NAMES", x, x.many(5), 0);
        Due.fine("VISITS", x, x.many(9), 1);
        Due.refused("load(1), the tape is empty", x, x.load(1), 1);
        Due.fine("load(0)", x, x.load(0), 1);
        Due.fine("many(0)", x, x.many(0), 1);
        // the word of type() stays
        Due.fine("put of the word typed ahead of load()", x, x.put(0), 1);
        Due.tells(x, 0, "abc");
        // with 9 all stays but the tape
        Due.feed(x, "start xyz; put 9 a;");
        Due.refused("load with a FAULT", x, x.load(19), 9);
        Due.tells(x, 0, "abc");
        Due.fine("many(0)", x, x.many(0), 2);
        Due.refused("load(1), the tape is empty", x, x.load(1), 1);
        Due.due("fault(0)", x.fault(0), 7);
        // TEST stays behind load(), and goes with the next one
        x = Due.of("join gap=0; put 0 a;put 0 b;put 0 c;");
        Due.due("GROUP", x.state(3, 5), 1);
        Due.put(x, 0, "d");
        Due.due("GROUP", x.state(4, 5), 1);
        Due.load(x, "put 0 a;put 0 b;");
        Due.due("GROUP without TEST", x.state(2, 5), 2);
        x = Due.of("start abcdefghijklmnopqrstuvwxyzabcdefghijklmn;");
        Due.due("a START of 40", x.many(3), 40);
        // TOKENS need no blanks, and any WORD may be put
        x = Due.of("start ab;join gap<1;put1put;cut\n0 1;wait007;");
        Due.tells(x, 0, "putb");
        Due.due("NOW", x.many(2), 7);
    }

    private static void p05Fault() {
        BranchedText x = new BranchedText();
        Due.due("fault(0) ahead of any", x.fault(0), -1);
        Due.due("fault(1) ahead of any", x.fault(1), -1);
        Due.load(x, "undo");
        x.load(9);
        Due.due("fault(0), load() with 1 is not told", x.fault(0), 2);
        Due.due("fault(1)", x.fault(1), 4);
        Due.due("fault(2)", x.fault(2), -1);
        Due.due("fault(-1)", x.fault(-1), -1);
        Due.load(x, "");
        Due.due("fault(0)", x.fault(0), 0);
        Due.due("fault(1)", x.fault(1), -1);
        Due.faulty("put 0 a; #", 1, 9);
        Due.faulty("put 0001 a;", 1, 4);
        Due.faulty("1234", 1, 0);
        Due.faulty("undo; #", 7, 4);
        Due.faulty("\t", 1, 0);
        Due.faulty("put 0 A;", 1, 6);
        Due.faulty("unname a;", 2, 0);
        Due.faulty("put a 0;", 2, 4);
        Due.faulty("put 0 a b;", 2, 8);
        Due.faulty("cut 0;", 2, 5);
        Due.faulty(";", 2, 0);
        Due.faulty("7", 2, 0);
        Due.faulty("join gap<1; start a;", 2, 12);
        Due.faulty("join gap<1; join gap<1;", 2, 12);
        Due.faulty("join gap<1 or", 2, 13);
        Due.faulty("join gap<1 and;", 2, 14);
        Due.faulty("join gap<1]", 2, 10);
        Due.faulty("join gap;", 2, 8);
        Due.faulty("join gap[", 2, 8);
        Due.faulty("join not;", 2, 8);
        Due.faulty("join gap<gap;", 2, 9);
        Due.faulty("join [];", 2, 6);
        Due.faulty("start abcdefghijklmnopqrstuvwxyzabcdefghijklmno;", 4, 6);
        Due.faulty("put 0 abcdefghijklm;", 4, 6);
        Due.faulty("name abcdefg;", 4, 5);
        Due.faulty("abcdefghijklmnopq;", 2, 0);
        Due.faulty("join [[[[[[[gap<1]]]]]]];", 6, 11);
        Due.faulty("join not [not [not [not gap<1]]];", 6, 20);
        Due.faulty("join gap<1 and [[[[[[not gap<1]]]]]];", 6, 21);
        Due.of("join [[[[[[gap<1]]]]]] and not not not not not not gap<1;");
        Due.of("join not [not [not [gap<1]]] or not [not [not [gap<1]]];");
        StringBuilder whole = new StringBuilder("join gap<1");
        while (whole.length() < 690) {
            whole.append(" and gap<1");
        }
        while (whole.length() < 698) {
            whole.append(' ');
        }
        Due.faulty(whole + "or", 2, 700);
        Due.faulty(whole + " #", 1, 699);
        Due.of(whole + " ;");
    }

    private static void p06Type() {
        BranchedText x = new BranchedText();
        Due.due("type(0, 1)", x.type(0, 1), 0);
        Due.due("type a", x.type(1, 0), 1);
        Due.due("type z", x.type(26, 0), 1);
        Due.due("type 27", x.type(27, 0), -1);
        Due.due("the word stays", x.put(0), 1);
        Due.due("letter", x.letter(1, 0), 25);
        Due.due("type stops at 0", x.type(1 | 31 << 10, 31), 1);
        Due.due("type of 12", Due.type(x, "abcdefghijkl"), 12);
        x.put(0);
        Due.tells(x, 0, "abcdefghijklz");
        Due.due("the two highest bits count not", x.type(0xc0000001, 0), 1);
        int six = 1 | 1 << 5 | 1 << 10 | 1 << 15 | 1 << 20 | 1 << 25;
        Due.due("type of 6", x.type(six, 0), 6);
        Due.due("type of 7", x.type(six | 3 << 30, 26), 7);
        Due.due("the 12th above 26", x.type(six, 1 | 1 << 5 | 1 << 10 | 1 << 15 | 1 << 20 | 31 << 25), -1);
        Due.due("26 as the 6th", x.type(1 | 1 << 5 | 1 << 10 | 1 << 15 | 1 << 20 | 26 << 25, 0), 6);
    }

    private static void p07Many() {
        BranchedText x = Due.of("start abc; put 3 de; put 5 f; wait 3; cut 0 1; name x; withdraw 1;");
        int[] want = {5, 4, 3, 2, 6, 1, 1, 3, 2, 4};
        for (int what = 0; what < want.length; what++) {
            Due.fine("many(" + what + ")", x, x.many(what), want[what]);
        }
        Due.refused("many(10)", x, x.many(10), 1);
        Due.refused("many(-1)", x, x.many(-1), 1);
        x.go(0);
        Due.put(x, 0, "q");
        Due.fine("leaves", x, x.many(6), 2);
        Due.fine("GROUPS of this LINE", x, x.many(7), 1);
        Due.fine("all of it IN FORCE", x, x.many(8), 0);
    }

    private static void p08Letter() {
        BranchedText x = Due.of("start az; put 1 m;");
        Due.fine("letter(1, 0)", x, x.letter(1, 0), 0);
        Due.fine("letter(1, 1)", x, x.letter(1, 1), 12);
        Due.fine("letter(1, 2)", x, x.letter(1, 2), 25);
        Due.fine("letter(0, 1)", x, x.letter(0, 1), 25);
        Due.refused("letter(1, 3)", x, x.letter(1, 3), 5);
        Due.refused("letter(0, MOST)", x, x.letter(0, MOST), 5);
        Due.refused("letter(2, 0)", x, x.letter(2, 0), 2);
        Due.refused("letter(-1, 0)", x, x.letter(-1, 0), 2);
        Due.refused("letter(9, -1)", x, x.letter(9, -1), 1);
    }

    private static void p09State() {
        BranchedText x = Due.of("start abc; wait 4; put 3 de; name x; name y; wait 1; put 5 f; go 1; cut 1 2; go 2; withdraw 1;");
        due(x, 0, -1, -1, 0, -1, 3, 0, 1, 0, 3, 0);
        due(x, 1, 0, 0, 4, 3, 2, 1, 2, 1, 5, 2);
        due(x, 2, 1, 0, 5, 5, 1, 1, 1, 2, 6, 0);
        due(x, 3, 1, 1, 5, 1, 2, 3, 0, 2, 3, 0);
        due(x, 4, 2, 2, 5, -1, 2, 4, 0, 3, 3, 0);
        Due.refused("state(5, 0)", x, x.state(5, 0), 2);
        Due.refused("state(-1, 0)", x, x.state(-1, 0), 2);
        Due.refused("state(48, 0)", x, x.state(48, 0), 2);
        Due.refused("state(0, 10)", x, x.state(0, 10), 1);
        Due.refused("state(99, -1)", x, x.state(99, -1), 1);
    }

    private static void due(BranchedText x, int state, int... want) {
        for (int what = 0; what < want.length; what++) {
            Due.fine("state(" + state + ", " + what + ")", x, x.state(state, what), want[what]);
        }
    }

    private static void p10Child() {
        BranchedText x = Due.of("put 0 a; go 0; put 0 b; go 0; put 0 c; go 1; put 1 d; go 3;");
        // last VISITS: 1 and below: that of 4, ahead of the last one of 3
        Due.fine("child(0, 0)", x, x.child(0, 0), 3);
        Due.fine("child(0, 1)", x, x.child(0, 1), 1);
        Due.fine("child(0, 2)", x, x.child(0, 2), 2);
        Due.refused("child(0, 3)", x, x.child(0, 3), 5);
        Due.refused("child(0, MOST)", x, x.child(0, MOST), 5);
        Due.refused("child(4, 0)", x, x.child(4, 0), 5);
        Due.refused("child(5, 0)", x, x.child(5, 0), 2);
        Due.refused("child(5, -1)", x, x.child(5, -1), 1);
        x.go(4);
        Due.fine("child(0, 0)", x, x.child(0, 0), 1);
        x.go(0);
        x.go(2);
        Due.name(x, "k");
        // a PRUNED one's VISITS count no longer: 1 was visited before 3
        x.prune(4);
        Due.fine("state(4) went first?", x, x.child(0, 0), 2);
        Due.refused("3 is gone", x, x.child(3, 0), 2);
        Due.fine("child(0, 1)", x, x.child(0, 1), 1);
    }

    private static void p11Force() {
        BranchedText x = Due.of("put 0 ab; put 2 c; withdraw 1; restore 2;");
        Due.fine("force(1, 1)", x, x.force(1, 1), 1);
        Due.fine("force(1, 2)", x, x.force(1, 2), 1);
        Due.fine("force(1, 3)", x, x.force(1, 3), 0);
        Due.fine("force(2, 3), it leans on 1", x, x.force(2, 3), 0);
        Due.fine("force(1, 4), 2 leans on it", x, x.force(1, 4), 1);
        Due.fine("force(2, 4)", x, x.force(2, 4), 1);
        Due.refused("force(2, 1)", x, x.force(2, 1), 5);
        Due.refused("force(0, 1)", x, x.force(0, 1), 5);
        Due.refused("force(3, 4)", x, x.force(3, 4), 5);
        Due.refused("force(5, 0)", x, x.force(5, 0), 2);
        Due.refused("force(0, 5)", x, x.force(0, 5), 2);
        Due.refused("force(-1, 0)", x, x.force(-1, 0), 2);
    }

    private static void p12Blame() {
        BranchedText x = Due.of("start abc; cut 0 1; put 1 xy;");
        // ROW: a b x y c, a went
        Due.tells(x, 0, "bxyc");
        Due.fine("blame(0, 0)", x, x.blame(0, 0), 0);
        Due.fine("blame(0, 1)", x, x.blame(0, 1), 1);
        Due.fine("blame(0, 2)", x, x.blame(0, 2), 1);
        Due.fine("blame(2, 0)", x, x.blame(2, 0), 2);
        Due.fine("blame(2, 1)", x, x.blame(2, 1), 1);
        Due.fine("blame(2, 2)", x, x.blame(2, 2), 3);
        Due.refused("blame(4, 0)", x, x.blame(4, 0), 5);
        Due.refused("blame(-1, 0)", x, x.blame(-1, 0), 1);
        Due.refused("blame(0, 3)", x, x.blame(0, 3), 1);
        Due.refused("blame(9, -1)", x, x.blame(9, -1), 1);
    }

    private static void p13Row() {
        BranchedText x = Due.of("start abc; cut 1 1; withdraw 1; cut 0 2; restore 1; put 0 z; put 1 y;");
        // 1 took b, 3 took a and b, both are IN FORCE; z at the very beginning, y right behind z
        Due.tells(x, 0, "zyc");
        int[][] want = {{25, 5, 1, 0, -1}, {24, 6, 1, 0, -1}, {0, 0, 0, 1, 3}, {1, 0, 0, 2, 3}, {2, 0, 1, 0, -1}};
        for (int i = 0; i < want.length; i++) {
            for (int what = 0; what < 5; what++) {
                Due.fine("row(" + i + ", " + what + ")", x, x.row(i, what), want[i][what]);
            }
        }
        Due.refused("row(5, 0)", x, x.row(5, 0), 5);
        Due.refused("row(-1, 0)", x, x.row(-1, 0), 1);
        Due.refused("row(0, 5)", x, x.row(0, 5), 1);
        Due.refused("row(9, -1)", x, x.row(9, -1), 1);
        // what comes goes right behind the letter that one SEES, ahead of those that went
        x = Due.of("start abc; cut 1 1; put 1 x;");
        Due.due("row(1, 0)", x.row(1, 0), 23);
        Due.due("row(2, 0)", x.row(2, 0), 1);
        // a CUT that is not IN FORCE is told as the last one all the same
        x = Due.of("start abc; cut 1 1; withdraw 1;");
        Due.due("row(1, 2)", x.row(1, 2), 1);
        Due.due("row(1, 3)", x.row(1, 3), 0);
        Due.due("row(1, 4)", x.row(1, 4), 1);
    }

    private static void p14Visit() {
        BranchedText x = new BranchedText();
        Due.refused("visit(0, 0)", x, x.visit(0, 0), 5);
        Due.put(x, 0, "a");
        x.wait(5);
        x.undo();
        Due.put(x, 0, "b");
        Due.fine("visit(0, 0)", x, x.visit(0, 0), 2);
        Due.fine("visit(0, 1)", x, x.visit(0, 1), 5);
        Due.fine("visit(1, 0)", x, x.visit(1, 0), 0);
        Due.fine("visit(2, 0)", x, x.visit(2, 0), 1);
        Due.fine("visit(2, 1)", x, x.visit(2, 1), 0);
        Due.refused("visit(3, 0)", x, x.visit(3, 0), 5);
        Due.refused("visit(40, 0)", x, x.visit(40, 0), 1);
        Due.refused("visit(-1, 0)", x, x.visit(-1, 0), 1);
        Due.refused("visit(0, 2)", x, x.visit(0, 2), 1);
        Due.fine("prune(2)", x, x.prune(2), 1);
        Due.fine("visit(2, 0), PRUNED since", x, x.visit(2, 0), -1);
        Due.fine("visit(2, 1)", x, x.visit(2, 1), 0);
        Due.put(x, 0, "c");
        Due.due("the number is used again", x.many(1), 1);
        Due.fine("visit(0, 0)", x, x.visit(0, 0), 1);
        Due.fine("visit(3, 0) is still gone", x, x.visit(3, 0), -1);
        for (int i = 0; i < 40; i++) {
            x.go(i % 2);
        }
        Due.fine("VISITS", x, x.many(9), 44);
        Due.fine("visit(39, 0)", x, x.visit(39, 0), 0);
        Due.fine("visit(38, 0)", x, x.visit(38, 0), 1);
    }

    private static void p15Named() {
        BranchedText x = new BranchedText();
        Due.refused("named() without a word", x, x.named(), 1);
        Due.put(x, 0, "abcdef");
        Due.refused("named()", x, x.named(), 5);
        x.name();
        Due.fine("named()", x, x.named(), 1);
        x.undo();
        Due.fine("named() from elsewhere", x, x.named(), 1);
        Due.type(x, "abcde");
        Due.refused("named()", x, x.named(), 5);
        Due.type(x, "abcdefg");
        Due.refused("named() of 7 letters", x, x.named(), 1);
    }

    private static void p16Leans() {
        BranchedText x = Due.of("start abc; put 3 de; put 5 f; put 0 g; cut 4 2; cut 0 1; go 1; put 0 h; withdraw 1;");
        Due.fine("2 is behind a letter of 1", x, x.leans(2, 1), 1);
        Due.fine("the order is free", x, x.leans(1, 2), 1);
        Due.fine("3 is at the beginning", x, x.leans(3, 1), 0);
        Due.fine("4 took letters of 1", x, x.leans(4, 1), 1);
        Due.fine("4 took none of 2", x, x.leans(4, 2), 0);
        Due.fine("5 took one of 3", x, x.leans(5, 3), 1);
        Due.fine("nothing leans on a CUT", x, x.leans(5, 4), 0);
        Due.fine("itself", x, x.leans(2, 2), 0);
        Due.refused("of two LINES", x, x.leans(6, 2), 5);
        Due.refused("the START", x, x.leans(1, 0), 5);
        Due.refused("a WITHDRAWN", x, x.leans(7, 1), 5);
        Due.refused("no STATE", x, x.leans(8, 1), 2);
        Due.refused("no STATE", x, x.leans(1, -1), 2);
    }

    private static void p17Put() {
        BranchedText x = Due.of("start abcdefghijklmnopqrstuvwxyzabcdefghijklmn;");
        Due.refused("put without a word", x, x.put(0), 1);
        Due.type(x, "xyz");
        Due.refused("put(41)", x, x.put(41), 1);
        Due.refused("put(-1)", x, x.put(-1), 1);
        Due.refused("put(MOST)", x, x.put(MOST), 1);
        Due.fine("put(40)", x, x.put(40), 1);
        Due.fine("put(0)", x, x.put(0), 2);
        for (int i = 3; i <= 8; i++) {
            Due.fine("put of 12", x, Due.put(x, 46, "abcdefghijkl"), i);
        }
        Due.refused("put of 3 to 121", x, Due.put(x, 0, "abc"), 6);
        Due.fine("put of 2 to 120", x, Due.put(x, 0, "ab"), 9);
        Due.refused("put of 1 to 121", x, Due.put(x, 0, "a"), 6);
        // 3 is ahead of 6, 1 ahead of 3
        for (int i = x.many(0); i < 48; i++) {
            x.undo();
            Due.put(x, 0, "b");
        }
        Due.fine("STATES", x, x.many(0), 48);
        x.go(9);
        Due.refused("put", x, Due.put(x, 0, "a"), 3);
        Due.refused("put", x, Due.put(x, 121, "a"), 1);
        Due.fine("STATES", x, x.many(0), 48);
    }

    private static void p18Cut() {
        BranchedText x = Due.of("start abcdefghijklmn;");
        Due.refused("cut(0, 0)", x, x.cut(0, 0), 1);
        Due.refused("cut(0, 13)", x, x.cut(0, 13), 1);
        Due.refused("cut(-1, 1)", x, x.cut(-1, 1), 1);
        Due.refused("cut(3, 12)", x, x.cut(3, 12), 5);
        Due.refused("cut(14, 1)", x, x.cut(14, 1), 5);
        Due.refused("cut(MOST, 12)", x, x.cut(MOST, 12), 5);
        Due.fine("cut(2, 12)", x, x.cut(2, 12), 1);
        Due.tells(x, 0, "ab");
        Due.fine("cut(0, 1)", x, x.cut(0, 1), 2);
        Due.tells(x, 0, "b");
        for (int i = x.many(0); i < 48; i++) {
            x.go(0);
            x.cut(i % 14, 1);
        }
        Due.refused("cut, one too many", x, x.cut(0, 1), 3);
        Due.refused("5 ahead of 3", x, x.cut(13, 12), 5);
        Due.refused("1 ahead of 5", x, x.cut(13, 13), 1);
    }

    private static void p19Wait() {
        BranchedText x = new BranchedText();
        Due.fine("wait(0)", x, x.wait(0), 0);
        Due.fine("wait(999)", x, x.wait(999), 999);
        Due.fine("wait(1)", x, x.wait(1), 1000);
        Due.refused("wait(1000)", x, x.wait(1000), 1);
        Due.refused("wait(-1)", x, x.wait(-1), 1);
        Due.fine("many(2)", x, x.many(2), 1000);
    }

    private static void p20Undo() {
        BranchedText x = Due.of("put 0 ab; put 2 c; put 3 d; wait 3; put 4 e; put 5 f;");
        Due.fine("undo()", x, x.undo(), 3);
        x.go(2);
        Due.fine("undo() from within a GROUP", x, x.undo(), 0);
        Due.refused("undo()", x, x.undo(), 5);
        x = Due.of("put 0 ab; withdraw 1; restore 1; put 0 c;");
        Due.fine("undo()", x, x.undo(), 3);
        Due.fine("undo() of a GIVEN BACK", x, x.undo(), 2);
        Due.fine("undo() of a WITHDRAWN", x, x.undo(), 1);
        Due.fine("VISITS", x, x.many(9), 7);
    }

    private static void p21Redo() {
        BranchedText x = Due.of("put 0 ab; put 2 c; put 3 d; wait 3; put 4 e; go 0;");
        Due.fine("redo() to the end of the GROUP", x, x.redo(), 3);
        Due.fine("redo()", x, x.redo(), 4);
        Due.refused("redo()", x, x.redo(), 5);
        x.go(1);
        Due.fine("redo() within a GROUP", x, x.redo(), 3);
        // the branch that was latest first, also within the GROUP
        x.go(1);
        Due.put(x, 2, "x");
        x.wait(3);
        Due.put(x, 3, "y");
        x.go(0);
        Due.fine("redo() along the LATEST", x, x.redo(), 1);
        x.go(3);
        x.go(0);
        Due.fine("redo()", x, x.redo(), 3);
        x = new BranchedText();
        Due.refused("redo()", x, x.redo(), 5);
        // it stops where the LATEST is of another GROUP, though another child is of this one
        x = Due.of("put 0 a; put 1 b; go 1; wait 5; put 1 c; go 0;");
        Due.fine("redo()", x, x.redo(), 1);
        x.go(2);
        x.go(0);
        Due.fine("redo()", x, x.redo(), 2);
    }

    private static void p22Go() {
        BranchedText x = Due.of("put 0 a; put 1 b; go 0; put 0 c;");
        Due.fine("go(2)", x, x.go(2), 3);
        Due.fine("go(1)", x, x.go(1), 1);
        Due.fine("go(2)", x, x.go(2), 1);
        Due.refused("go(2)", x, x.go(2), 4);
        Due.refused("go(4)", x, x.go(4), 2);
        Due.refused("go(-1)", x, x.go(-1), 2);
        Due.refused("go(LEAST)", x, x.go(LEAST), 2);
        Due.fine("VISITS: what one goes through is none", x, x.many(9), 7);
    }

    private static void p23Name() {
        BranchedText x = new BranchedText();
        Due.refused("name() without a word", x, x.name(), 1);
        Due.fine("name()", x, Due.name(x, "abcdef"), 1);
        Due.refused("name() again", x, x.name(), 4);
        Due.refused("name() of 7", x, Due.name(x, "abcdefg"), 1);
        for (int i = 0; i < 11; i++) {
            Due.fine("name()", x, Due.name(x, "n" + (char) ('a' + i)), i + 2);
        }
        Due.refused("a 13th NAME", x, Due.name(x, "a"), 3);
        Due.put(x, 0, "q");
        Due.fine("one told anew", x, Due.name(x, "nc"), 12);
        Due.due("named()", x.named(), 1);
        Due.refused("told anew of the same", x, x.name(), 4);
        Due.tells(x, 2, "abcdef=0 na=0 nb=0 nc=1 nd=0 ne=0 nf=0 ng=0 nh=0 ni=0 nj=0 nk=0");
        Due.due("NAMES of 0", x.state(0, 9), 11);
    }

    private static void p24Unname() {
        BranchedText x = Due.of("name a; name b; name c;");
        Due.refused("unname() without a word", x, x.unname(), 1);
        Due.type(x, "b");
        Due.fine("unname()", x, x.unname(), 2);
        Due.refused("unname() again", x, x.unname(), 5);
        Due.tells(x, 2, "a=0 c=0");
        Due.fine("it comes behind the others", x, Due.name(x, "b"), 3);
        Due.tells(x, 2, "a=0 c=0 b=0");
        Due.type(x, "bbbbbbb");
        Due.refused("unname() of 7", x, x.unname(), 1);
    }

    private static void p25Withdraw() {
        BranchedText x = Due.of("start xy; put 1 abc; put 2 d; cut 4 2; put 0 e;");
        Due.tells(x, 0, "exadb");
        Due.refused("the START", x, x.withdraw(0), 7);
        Due.refused("no STATE", x, x.withdraw(9), 2);
        Due.fine("withdraw(1)", x, x.withdraw(1), 5);
        // d leans on it, the CUT that took its c too: y is there again
        Due.tells(x, 0, "exy");
        Due.fine("named", x, x.state(5, 4), 3);
        Due.refused("it is not IN FORCE", x, x.withdraw(2), 4);
        Due.refused("a WITHDRAWN", x, x.withdraw(5), 7);
        x.go(3);
        Due.refused("not of the LINE", x, x.withdraw(4), 7);
        Due.fine("withdraw(3)", x, x.withdraw(3), 6);
        Due.tells(x, 0, "xadbcy");
        // 6: a CUT's letters would be 121
        x = Due.of("start abcdefghijklmnopqrstuvwxyzabcdefghijklmn; cut 0 1;");
        for (int i = 0; i < 6; i++) {
            Due.put(x, 0, "abcdefghijkl");
        }
        Due.put(x, 0, "abcdefghi");
        Due.due("LETTERS", x.many(3), 120);
        Due.refused("withdraw(1)", x, x.withdraw(1), 6);
        Due.due("STATES", x.many(0), 9);
        for (int i = 9; i < 48; i++) {
            x.go(0);
            x.cut(0, 1);
        }
        x.go(8);
        Due.refused("3 ahead of 6", x, x.withdraw(1), 3);
        x.go(47);
        Due.refused("7 ahead of 3", x, x.withdraw(1), 7);
    }

    private static void p26Restore() {
        BranchedText x = Due.of("start xy; put 1 abc; put 2 d; cut 2 1; withdraw 1;");
        Due.tells(x, 0, "xy");
        Due.refused("the START", x, x.restore(0), 7);
        Due.refused("a WITHDRAWN", x, x.restore(4), 7);
        Due.refused("no STATE", x, x.restore(5), 2);
        // the CUT took d of 2, that came behind a of 1
        Due.fine("restore(3)", x, x.restore(3), 5);
        Due.fine("named", x, x.state(5, 4), 3);
        Due.tells(x, 0, "xabcy");
        Due.refused("it is IN FORCE", x, x.restore(2), 4);
        x.go(4);
        Due.fine("restore(2)", x, x.restore(2), 6);
        Due.fine("named", x, x.state(6, 4), 2);
        Due.tells(x, 0, "xadbcy");
        x.go(4);
        Due.fine("restore(1)", x, x.restore(1), 7);
        Due.tells(x, 0, "xabcy");
        x.go(3);
        Due.refused("it is IN FORCE there", x, x.restore(1), 4);
        // 6
        x = Due.of("start abcdefghijklmnopqrstuvwxyzabcdefghijklmn; put 0 a; withdraw 1;");
        for (int i = 0; i < 6; i++) {
            Due.put(x, 0, "abcdefghijkl");
        }
        Due.put(x, 0, "abcdefgh");
        Due.due("LETTERS", x.many(3), 120);
        Due.refused("restore(1)", x, x.restore(1), 6);
        Due.due("STATES", x.many(0), 10);
    }

    private static void p27Carry() {
        BranchedText x = Due.of("start abc; put 1 x; put 0 y; cut 2 3; go 0; put 2 z;");
        // HERE 4: abzc
        Due.refused("its LINE", x, x.carry(4), 7);
        Due.refused("the START", x, x.carry(0), 7);
        Due.refused("no STATE", x, x.carry(5), 2);
        Due.fine("carry(1), behind a", x, x.carry(1), 5);
        Due.tells(x, 0, "axbzc");
        Due.due("PLACE", x.state(5, 3), 1);
        Due.fine("carry(2), at the beginning", x, x.carry(2), 6);
        Due.tells(x, 0, "yaxbzc");
        // 3 took x of 1, b, c: b and c are not side by side here
        Due.refused("carry(3)", x, x.carry(3), 10);
        x.go(0);
        Due.fine("carry(3) takes b and c", x, x.carry(3), 7);
        Due.tells(x, 0, "a");
        Due.due("CUT", x.state(7, 4), 2);
        Due.due("PLACE", x.state(7, 3), 1);
        Due.refused("it takes none", x, x.carry(3), 10);
        // the LETTER is not in this ROW
        x = Due.of("put 0 ab; put 1 c; go 0; put 0 d;");
        Due.refused("carry(2)", x, x.carry(2), 10);
        Due.fine("carry(1)", x, x.carry(1), 4);
        Due.refused("carry(2), another STATE put these in", x, x.carry(2), 10);
        // it is in the ROW, but went
        x = Due.of("start abc; put 2 x; go 0; cut 0 3; carry 1;");
        Due.tells(x, 0, "x");
        Due.due("PLACE", x.state(3, 3), 0);
        Due.due("ROW", x.row(0, 1), 3);
        // as any, it joins a GROUP
        x = Due.of("start a; put 1 b; put 2 c; go 0; put 1 q; go 2; carry 3;");
        Due.due("GROUP of its own", x.state(4, 5), 4);
        x = Due.of("start a; put 1 b; go 0; put 0 q; carry 1;");
        Due.tells(x, 0, "qab");
        Due.due("GROUP", x.state(3, 5), 3);
        x = Due.of("start a; join gap<9; put 1 b; go 0; put 0 q; carry 1;");
        Due.due("GROUP", x.state(3, 5), 2);
        p27CarryRefused();
    }

    private static void p27CarryRefused() {
        BranchedText x = Due.of("start abcdefghijklmnopqrstuvwxyzabcdefghijklmn; put 0 xy; put 1 z; go 0;");
        for (int i = 0; i < 6; i++) {
            Due.put(x, 0, "abcdefghijkl");
        }
        Due.put(x, 0, "abcdefg");
        Due.refused("to 121", x, x.carry(1), 6);
        Due.refused("10 ahead of 6", x, x.carry(2), 10);
        for (int i = x.many(0); i < 48; i++) {
            x.go(0);
            x.cut(0, 1);
        }
        x.go(9);
        Due.due("LETTERS", x.many(3), 119);
        Due.refused("3 ahead of 6", x, x.carry(1), 3);
        Due.refused("10 ahead of 3", x, x.carry(2), 10);
    }

    private static void p28Merge() {
        BranchedText x = Due.of("start ab; put 1 x; put 2 y; cut 1 1; withdraw 3; put 4 z; go 0; put 0 q;");
        Due.refused("its LINE", x, x.merge(0), 4);
        Due.refused("HERE", x, x.merge(6), 4);
        Due.refused("no STATE", x, x.merge(7), 2);
        // x behind a; y behind x, now that of 7; the CUT is not IN FORCE; z behind b
        Due.fine("merge(5)", x, x.merge(5), 3);
        Due.tells(x, 0, "qaxybz");
        Due.tells(x, 1, "0<6<7<8<9");
        Due.fine("merge(5) again", x, x.merge(5), 3);
        Due.tells(x, 0, "qaxyxybzz");
        // of a CUT, what stands for its letters
        x = Due.of("start ab; put 1 xyz; cut 2 1; go 0; put 0 q; merge 2;");
        Due.tells(x, 0, "qaxzb");
        Due.fine("STATES", x, x.many(0), 6);
        // what can't be is left out, and what is behind it
        x = Due.of("start ab; put 1 x; put 2 y; put 0 z; go 0; go 3;");
        Due.name(x, "k");
        x = Due.of("start abc; cut 0 2; put 0 p; put 1 q; go 0; cut 0 1; cut 0 1;");
        Due.fine("merge(3), the CUT takes none", x, x.merge(3), 2);
        Due.tells(x, 0, "pqc");
        x = Due.of("start abc; cut 0 3; go 0; put 1 x; merge 1;");
        Due.tells(x, 0, "axbc");
        Due.fine("nothing was CARRIED", x, x.many(1), 2);
        Due.fine("and nothing VISITED", x, x.many(9), 3);
        p28MergeLimits();
    }

    private static void p28MergeLimits() {
        BranchedText x = Due.of("start abcdefghijklmnopqrstuvwxyzabcdefghijklmn; put 0 aaaa; put 4 b; go 0;");
        for (int i = 0; i < 6; i++) {
            Due.put(x, 0, "abcdefghijkl");
        }
        Due.put(x, 0, "abcdefg");
        // 6: four letters are too many; the one letter is behind them
        Due.fine("merge(2)", x, x.merge(2), 0);
        x.cut(0, 3);
        Due.fine("merge(2)", x, x.merge(2), 1);
        Due.due("LETTERS", x.many(3), 120);
        // 3: STATES enough for one alone
        x = Due.of("start a; put 0 b; put 1 c; put 2 d; go 0;");
        for (int i = 4; i < 47; i++) {
            x.go(0);
            Due.put(x, 0, "e");
        }
        Due.fine("merge(3)", x, x.merge(3), 1);
        Due.fine("STATES", x, x.many(0), 48);
    }

    private static void p29Prune() {
        BranchedText x = Due.of("put 0 a; put 1 b; go 0; put 0 c; name k; go 0; put 0 d; go 0; put 0 e; go 4; go 5;");
        Due.refused("prune(0)", x, x.prune(0), 1);
        Due.refused("prune(49)", x, x.prune(49), 1);
        Due.refused("prune(-1)", x, x.prune(-1), 1);
        Due.fine("prune(6)", x, x.prune(6), 0);
        // 2 was visited longest ago; then 1, a leaf then
        Due.fine("prune(5)", x, x.prune(5), 1);
        Due.refused("2 is gone", x, x.state(2, 0), 2);
        Due.fine("prune(1), 3 has a NAME, 5 is HERE", x, x.prune(1), 2);
        Due.due("STATES", x.many(0), 3);
        Due.due("3", x.state(3, 0), 0);
        Due.put(x, 0, "f");
        Due.due("the least number that none has", x.many(1), 1);
        Due.put(x, 0, "g");
        Due.due("the least number that none has", x.many(1), 2);
        Due.put(x, 0, "h");
        Due.due("the least number that none has", x.many(1), 4);
        Due.put(x, 0, "i");
        Due.due("the least number that none has", x.many(1), 6);
        Due.tells(x, 1, "0<5<1<2<4<6");
        Due.tells(x, 0, "ihgfe");
    }

    private static void p30Common() {
        BranchedText x = Due.of("put 0 a; put 1 b; go 1; put 1 c; go 0; put 0 d;");
        Due.fine("common(2, 3)", x, x.common(2, 3), 1);
        Due.fine("common(2, 1)", x, x.common(2, 1), 1);
        Due.fine("common(1, 2)", x, x.common(1, 2), 1);
        Due.fine("common(2, 4)", x, x.common(2, 4), 0);
        Due.fine("common(3, 3)", x, x.common(3, 3), 3);
        Due.refused("common(5, 0)", x, x.common(5, 0), 2);
        Due.refused("common(0, -1)", x, x.common(0, -1), 2);
    }

    private static void p31Way() {
        BranchedText x = Due.of("put 0 a; put 1 b; go 1; put 1 c; go 0; put 0 d;");
        int[] want = {2, 1, 3};
        for (int i = 0; i < want.length; i++) {
            Due.fine("way(2, 3, " + i + ")", x, x.way(2, 3, i), want[i]);
        }
        Due.refused("way(2, 3, 3)", x, x.way(2, 3, 3), 5);
        Due.refused("way(2, 3, MOST)", x, x.way(2, 3, MOST), 5);
        int[] down = {4, 0, 1, 3};
        for (int i = 0; i < down.length; i++) {
            Due.fine("way(4, 3, " + i + ")", x, x.way(4, 3, i), down[i]);
        }
        Due.fine("way(1, 1, 0)", x, x.way(1, 1, 0), 1);
        Due.refused("way(1, 1, 1)", x, x.way(1, 1, 1), 5);
        Due.refused("way(9, 1, -1)", x, x.way(9, 1, -1), 1);
        Due.refused("way(9, 1, 0)", x, x.way(9, 1, 0), 2);
    }

    private static void p32Between() {
        BranchedText x = Due.of("start abc; put 1 x; go 0; put 1 x; cut 0 1; go 0; put 3 d;");
        Due.fine("KEPT: each x is another one", x, x.between(1, 2, 0), 3);
        Due.fine("LOST", x, x.between(1, 2, 1), 1);
        Due.fine("CAME", x, x.between(1, 2, 2), 1);
        Due.fine("they are the same", x, x.between(1, 2, 3), -1);
        Due.fine("KEPT", x, x.between(0, 3, 0), 2);
        Due.fine("LOST", x, x.between(0, 3, 1), 1);
        Due.fine("CAME", x, x.between(0, 3, 2), 1);
        Due.fine("the first difference", x, x.between(0, 3, 3), 0);
        Due.fine("as many as the shorter one has", x, x.between(0, 4, 3), 3);
        Due.fine("as many as the shorter one has", x, x.between(4, 0, 3), 3);
        Due.refused("between(0, 5, 0)", x, x.between(0, 5, 0), 2);
        Due.refused("between(5, 5, 4)", x, x.between(5, 5, 4), 1);
        Due.refused("between(0, 0, -1)", x, x.between(0, 0, -1), 1);
    }

    private static void p33Least() {
        BranchedText x = Due.of("start abcabba; put 0 c; go 0; cut 0 7; put 0 cbabac;");
        Due.fine("abcabba to cbabac", x, x.least(0, 3), 5);
        Due.fine("least(3, 0)", x, x.least(3, 0), 5);
        Due.fine("least(0, 1)", x, x.least(0, 1), 1);
        Due.fine("least(0, 2)", x, x.least(0, 2), 7);
        Due.fine("least(2, 2)", x, x.least(2, 2), 0);
        Due.refused("least(0, 4)", x, x.least(0, 4), 2);
    }

    private static void p34Merges() {
        BranchedText x = Due.of("start abc; put 1 x; cut 2 1; put 0 y; go 0; cut 1 1; put 0 z;");
        int visits = x.many(9);
        Due.fine("how many were CARRIED", x, x.merges(3, 0), 2);
        Due.fine("left out", x, x.merges(3, 1), 1);
        Due.fine("LETTERS", x, x.merges(3, 2), 5);
        Due.refused("merges(0, 0)", x, x.merges(0, 0), 4);
        Due.refused("merges(9, 0)", x, x.merges(9, 0), 2);
        Due.refused("merges(9, 3)", x, x.merges(9, 3), 1);
        Due.due("VISITS stay", x.many(9), visits);
        Due.due("STATES stay", x.many(0), 6);
        Due.due("HERE stays", x.many(1), 5);
        Due.due("the LOG stays", x.visit(0, 0), 5);
        Due.refused("no child came", x, x.child(5, 0), 5);
        Due.fine("merge(3)", x, x.merge(3), 2);
        Due.tells(x, 0, "yzaxc");
    }

    private static void p35Tell() {
        BranchedText x = Due.of("start ab; put 1 xy; name k; name abcdef; undo; name k;");
        Due.fine("tell(0)", x, x.tell(0), 2);
        Due.fine("tell(1)", x, x.tell(1), 1);
        Due.fine("tell(2)", x, x.tell(2), 12);
        Due.tells(x, 2, "k=0 abcdef=1");
        Due.refused("tell(3)", x, x.tell(3), 1);
        Due.refused("tell(-1)", x, x.tell(-1), 1);
        Due.fine("OUT stays", x, x.out(0), 'k');
        x.go(1);
        Due.tells(x, 0, "axyb");
        Due.tells(x, 1, "0<1");
        for (int i = 2; i < 48; i++) {
            Due.put(x, 0, "a");
        }
        Due.fine("a long LINE", x, x.tell(1), 133);
        Due.fine("its last byte", x, x.out(132), '7');
        for (int i = 0; i < 10; i++) {
            Due.name(x, "aaaaa" + (char) ('a' + i));
        }
        Due.fine("all NAMES", x, x.tell(2), 11 + 3 + 8 + 90);
    }

    private static void p36Out() {
        BranchedText x = Due.of("start xyz;");
        Due.refused("out(0)", x, x.out(0), 5);
        x.tell(0);
        Due.fine("out(0)", x, x.out(0), 'x');
        Due.fine("out(2)", x, x.out(2), 'z');
        Due.refused("out(3)", x, x.out(3), 5);
        Due.refused("out(-1)", x, x.out(-1), 1);
        Due.refused("out(MOST)", x, x.out(MOST), 5);
        x.cut(0, 1);
        Due.fine("OUT is as it was told", x, x.out(0), 'x');
    }

    private static void p37Leaning() {
        BranchedText x = Due.of("start xy; put 1 abc; put 2 d; cut 4 2; put 0 e; withdraw 2;");
        Due.tells(x, 0, "exab");
        Due.fine("how many", x, x.leaning(1, 0), 3);
        Due.fine("IN FORCE", x, x.leaning(1, 1), 2);
        Due.fine("LETTERS", x, x.leaning(1, 2), 2);
        Due.fine("were it withdrawn", x, x.leaning(1, 3), 3);
        Due.fine("one that is not IN FORCE", x, x.leaning(2, 1), 0);
        Due.fine("were it withdrawn", x, x.leaning(2, 3), 4);
        Due.fine("a CUT", x, x.leaning(3, 0), 1);
        Due.fine("were it withdrawn", x, x.leaning(3, 3), 6);
        Due.refused("the START", x, x.leaning(0, 0), 7);
        Due.refused("a WITHDRAWN", x, x.leaning(5, 0), 7);
        Due.refused("no STATE", x, x.leaning(6, 0), 2);
        Due.refused("leaning(6, 4)", x, x.leaning(6, 4), 1);
        x.go(1);
        Due.fine("of this LINE alone", x, x.leaning(1, 0), 1);
        Due.refused("not of the LINE", x, x.leaning(2, 0), 7);
        // on paper it may be more than 120
        x = Due.of("start abcdefghijklmnopqrstuvwxyzabcdefghijklmn; cut 0 12;");
        for (int i = 0; i < 7; i++) {
            Due.put(x, 0, "abcdefghijkl");
        }
        Due.put(x, 0, "abcdefgh");
        Due.fine("more than 120", x, x.leaning(1, 3), 132);
    }

    private static void p38Find() {
        BranchedText x = Due.of("start ab; put 1 cc; put 0 ac; go 0;");
        Due.refused("without a word", x, x.find(1), 1);
        Due.type(x, "ac");
        Due.fine("the least STATE", x, x.find(0), 1);
        Due.fine("how many", x, x.find(1), 2);
        Due.refused("nowhere at HERE", x, x.find(2), 5);
        x.go(2);
        Due.fine("the PLACE", x, x.find(2), 0);
        Due.type(x, "cca");
        Due.refused("none", x, x.find(0), 5);
        Due.fine("how many", x, x.find(1), 0);
        Due.type(x, "ccb");
        Due.fine("the PLACE at the end", x, x.find(2), 3);
        Due.refused("find(3)", x, x.find(3), 1);
        Due.refused("find(-1)", x, x.find(-1), 1);
        Due.type(x, "acaccbaccbac");
        Due.refused("longer than the DOCUMENT", x, x.find(2), 5);
    }

    private static void p39First() {
        BranchedText x = Due.of("put 0 a; go 0; put 0 b; go 0; put 0 c; go 1; name k; go 3;");
        Due.fine("first()", x, x.first(), 2);
        x.prune(3);
        Due.refused("1 has a NAME, 3 is HERE", x, x.first(), 5);
        x.go(1);
        Due.fine("first()", x, x.first(), 3);
        Due.due("STATES", x.many(0), 3);
        x = new BranchedText();
        Due.refused("the START alone", x, x.first(), 5);
    }

    private static void p40Twin() {
        BranchedText x = Due.of("start ab; cut 0 1; put 0 a; go 0; put 1 x; cut 1 1; put 2 c;");
        Due.fine("twin(0)", x, x.twin(0), 2);
        Due.fine("twin(2)", x, x.twin(2), 0);
        Due.fine("twin(4)", x, x.twin(4), 0);
        Due.refused("twin(1)", x, x.twin(1), 5);
        Due.refused("twin(5), longer", x, x.twin(5), 5);
        Due.refused("twin(6)", x, x.twin(6), 2);
        Due.refused("twin(-1)", x, x.twin(-1), 2);
    }

    private static void p41Back() {
        BranchedText x = Due.of("put 0 a; put 1 b; wait 3; put 2 c; withdraw 1;");
        Due.fine("back(1)", x, x.back(1), 3);
        Due.fine("back(2)", x, x.back(2), 2);
        Due.fine("back(3)", x, x.back(3), 0);
        Due.refused("back(4)", x, x.back(4), 5);
        Due.refused("back(48)", x, x.back(48), 5);
        Due.refused("back(49)", x, x.back(49), 1);
        Due.refused("back(0)", x, x.back(0), 1);
        Due.fine("HERE stays", x, x.many(1), 4);
        Due.fine("VISITS stay", x, x.many(9), 4);
    }

    /** GROUP and TEST, which no promise has alone. */
    private static void groups() {
        group("put 0 ab; put 2 c;", 2, 1);
        group("put 0 ab; put 1 c;", 2, 2);
        group("put 0 ab; wait 2; put 2 c;", 2, 1);
        group("put 0 ab; wait 3; put 2 c;", 2, 2);
        group("put 0 ab; cut 1 1;", 2, 2);
        group("join near=1; put 0 ab; cut 1 1;", 2, 1);
        group("join near=1; put 0 ab; cut 0 1;", 2, 2);
        group("start abc; join near=1; cut 1 1; put 1 c;", 2, 1);
        group("start abc; join near=1; cut 1 1; put 0 c;", 2, 2);
        group("start abcd; cut 2 1; cut 1 1;", 2, 1);
        group("start abcd; cut 2 1; cut 2 1;", 2, 1);
        group("start abcd; cut 2 1; cut 0 1;", 2, 2);
        group("put 0 a;put 1 a;put 2 a;put 3 a;put 4 a;put 5 a;put 6 a;put 7 a;", 8, 1);
        group("put 0 a;put 1 a;put 2 a;put 3 a;put 4 a;put 5 a;put 6 a;put 7 a;put 8 a;", 9, 9);
        group("join size<2; put 0 a; put 0 a; put 0 a;", 3, 3);
        group("join kind=1; put 0 ab; cut 0 1;", 2, 1);
        group("join kind=1; put 0 ab; put 0 a;", 2, 2);
        group("join long>1; put 0 ab; put 0 ab;", 2, 1);
        group("join long>1; put 0 ab; put 0 a;", 2, 2);
        group("join not same=1; put 0 ab; cut 0 1;", 2, 1);
        group("join same=0 or gap=0 and long=1; put 0 ab; put 0 a;", 2, 1);
        group("join [same=0 or gap=0] and long=1; put 0 ab; cut 0 2;", 2, 2);
        group("join same=0 or gap=0 and long=1; put 0 ab; cut 0 2;", 2, 1);
        group("join not gap=0 and gap=1; put 0 ab; put 0 a;", 2, 2);
        group("join not [gap=0 and gap=1]; put 0 ab; put 0 a;", 2, 1);
        group("join not not gap=0; put 0 ab; put 0 a;", 2, 1);
        group("join gap<9; put 0 ab; withdraw 1; put 0 a;", 3, 3);
        group("join gap<9; put 0 ab; withdraw 1;", 2, 2);
        // a branch joins the GROUP too, and counts its own LINE
        group("join size<3; put 0 a; put 0 b; put 0 c; go 1; put 0 d;", 4, 1);
        group("join size<3; put 0 a; put 0 b; put 0 c; go 1; put 0 d; put 0 e;", 5, 1);
        group("join size<3; put 0 a; put 0 b; put 0 c; go 1; put 0 d; put 0 e; put 0 f;", 6, 6);
    }

    private static void group(String text, int state, int first) {
        BranchedText x = Due.of(text);
        Due.due("GROUP of " + state + " of " + text, x.state(state, 5), first);
    }

    public static void main(String[] args) {
        Due.due("NONE", BranchedText.NONE, -1);
        p01NewObject();
        p02Status();
        p03Feed();
        p04Load();
        p05Fault();
        p06Type();
        p07Many();
        p08Letter();
        p09State();
        p10Child();
        p11Force();
        p12Blame();
        p13Row();
        p14Visit();
        p15Named();
        p16Leans();
        p17Put();
        p18Cut();
        p19Wait();
        p20Undo();
        p21Redo();
        p22Go();
        p23Name();
        p24Unname();
        p25Withdraw();
        p26Restore();
        p27Carry();
        p28Merge();
        p29Prune();
        p30Common();
        p31Way();
        p32Between();
        p33Least();
        p34Merges();
        p35Tell();
        p36Out();
        p37Leaning();
        p38Find();
        p39First();
        p40Twin();
        p41Back();
        groups();
        Due.end("PromisesTest");
    }
}
