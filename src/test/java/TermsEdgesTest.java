/** Each sentence of the document's Terms that names an edge, with a test of its own. */
public final class TermsEdgesTest {
    private static final String FORTY = "abcdefghijklmnopqrstuvwxyzabcdefghijklmn";
    private static final String TWELVE = "abcdefghijkl";
    /** What a TEXT may begin with, up to each TOKEN behind which it can't end. */
    private static final String[] HEADS = {"start", "start a", "join", "join gap", "join gap<", "join gap<1", "join not", "join [",
        "join [gap<1", "join [gap<1]", "join gap<1 or", "join gap<1 and", "put", "put 0", "put 0 a", "cut", "cut 0", "cut 0 1",
        "wait", "wait 1", "undo", "redo", "go", "go 0", "name", "name a", "withdraw", "withdraw 1", "restore", "restore 1",
        "carry", "carry 1", "merge", "merge 1", "prune", "prune 1"};

    private static void documentOf120() {
        Due.says("A DOCUMENT is a row of LETTERS a .. z, at most 120.");
        BranchedText x = Due.of("start " + FORTY + ";");
        for (int i = 1; i <= 6; i++) {
            Due.fine("put of 12", x, Due.put(x, 40, TWELVE), i);
        }
        Due.refused("put of 9, to 121", x, Due.put(x, 112, "abcdefghi"), 6);
        Due.fine("put of 8, to 120", x, Due.put(x, 112, "aaaaaaaz"), 7);
        Due.fine("LETTERS", x, x.many(3), 120);
        Due.fine("the first LETTER", x, x.letter(7, 0), 0);
        Due.fine("the last LETTER", x, x.letter(7, 119), 25);
        Due.refused("one behind it", x, x.letter(7, 120), 5);
        Due.refused("put of 1, to 121", x, Due.put(x, 120, "a"), 6);
        Due.refused("put of 1, to 121", x, Due.put(x, 0, "a"), 6);
        Due.fine("what is told", x, x.tell(0), 120);
        Due.fine("its last byte", x, x.out(119), 'z');
        Due.fine("cut(119, 1)", x, x.cut(119, 1), 8);
        Due.fine("put of 1, to 120 again", x, Due.put(x, 0, "q"), 9);
        Due.fine("LETTERS", x, x.many(3), 120);
    }

    private static void fortyEightStates() {
        Due.says("STATES, at most 48, numbered from 0 on as they came");
        BranchedText x = Due.of("put 0 a; go 0; put 0 b; put 1 c; withdraw 3;");
        Due.type(x, "d");
        for (int i = 5; i < 48; i++) {
            Due.fine("put", x, x.put(0), i);
        }
        Due.fine("STATES", x, x.many(0), 48);
        Due.refused("put", x, x.put(0), 3);
        Due.refused("cut", x, x.cut(0, 1), 3);
        Due.refused("withdraw", x, x.withdraw(2), 3);
        Due.refused("restore", x, x.restore(3), 3);
        Due.refused("carry", x, x.carry(1), 3);
        Due.fine("merge leaves all out", x, x.merge(1), 0);
        Due.fine("merges leaves all out", x, x.merges(1, 1), 1);
        Due.fine("STATES", x, x.many(0), 48);
        Due.fine("HERE", x, x.many(1), 47);
        Due.refused("no 48", x, x.state(48, 0), 2);
        Due.fine("prune(47)", x, x.prune(47), 1);
        Due.fine("one fits again", x, x.put(0), 1);
        Due.refused("one alone", x, x.put(0), 3);
    }

    private static void emptyNumbers() {
        Due.says("those that are PRUNED leave their numbers empty; a new one has the least number that none has");
        BranchedText x = Due.of("put 0 a; go 0; put 0 b; name k; go 0; put 0 c; go 0; put 0 d; name l; go 0; put 0 e; go 0;");
        Due.fine("prune(1), 2 and 4 have NAMES", x, x.prune(1), 3);
        Due.fine("STATES", x, x.many(0), 3);
        for (int gone : new int[] {1, 3, 5}) {
            Due.refused("state(" + gone + ", 0)", x, x.state(gone, 0), 2);
        }
        Due.fine("state(2, 0)", x, x.state(2, 0), 0);
        Due.fine("state(4, 0)", x, x.state(4, 0), 0);
        Due.fine("put", x, Due.put(x, 0, "f"), 1);
        Due.fine("cut", x, x.cut(0, 1), 3);
        Due.fine("withdraw", x, x.withdraw(1), 5);
        Due.fine("put", x, Due.put(x, 0, "g"), 6);
        Due.tells(x, 1, "0<1<3<5<6");
    }

    private static void putAtItsEdges() {
        Due.says("0 PUT: a WORD (1 to 12 letters) comes ahead of the LETTER at a PLACE (0 to as many as there are)");
        BranchedText x = new BranchedText();
        Due.refused("PLACE 1 of none", x, Due.put(x, 1, "b"), 1);
        Due.refused("no WORD", x, Due.put(x, 0, ""), 1);
        Due.fine("1 letter", x, Due.put(x, 0, "b"), 1);
        Due.fine("12 letters", x, Due.put(x, 0, TWELVE), 2);
        Due.tells(x, 0, TWELVE + "b");
        Due.refused("PLACE 14 of 13", x, Due.put(x, 14, "z"), 1);
        Due.refused("PLACE -1", x, Due.put(x, -1, "z"), 1);
        Due.fine("PLACE 13 of 13", x, Due.put(x, 13, "z"), 3);
        Due.tells(x, 0, TWELVE + "bz");
        Due.fine("ahead of the last one", x, Due.put(x, 13, "y"), 4);
        Due.tells(x, 0, TWELVE + "byz");
        Due.faulty("put 0 " + TWELVE + "m;", 4, 6);
    }

    private static void cutAtItsEdges() {
        Due.says("1 CUT: so many LETTERS (1 to 12) from a PLACE on go");
        BranchedText x = Due.of("start abcdefghijklmno;");
        Due.refused("cut(0, 0)", x, x.cut(0, 0), 1);
        Due.refused("cut(0, 13)", x, x.cut(0, 13), 1);
        Due.fine("cut(3, 12), the last ones", x, x.cut(3, 12), 1);
        Due.tells(x, 0, "abc");
        Due.fine("cut(2, 1)", x, x.cut(2, 1), 2);
        Due.tells(x, 0, "ab");
        Due.fine("cut(0, 2), all", x, x.cut(0, 2), 3);
        Due.tells(x, 0, "");
        Due.fine("LETTERS", x, x.many(3), 0);
        Due.refused("cut of none", x, x.cut(0, 1), 5);
    }

    private static void linesOfOneAndAll() {
        Due.says("The LINE of a STATE: STATES from the START to it, by PARENTS (both, too).");
        BranchedText x = new BranchedText();
        Due.tells(x, 1, "0");
        Due.fine("common(0, 0)", x, x.common(0, 0), 0);
        Due.refused("merge(0), it is of it", x, x.merge(0), 4);
        x = Due.of("put 0 a; put 1 b; go 1;");
        Due.tells(x, 1, "0<1");
        Due.refused("merge(1), itself", x, x.merge(1), 4);
        Due.refused("merge(0), the START", x, x.merge(0), 4);
        Due.refused("withdraw(2), what is below is not", x, x.withdraw(2), 7);
        Due.fine("merge(2)", x, x.merge(2), 1);
        Due.tells(x, 0, "ab");
        Due.tells(x, 1, "0<1<3");
    }

    private static void rowOfAllThatWent() {
        Due.says("ROW of a STATE: all LETTERS that were put in by STATES of its LINE, and those of the START, with those that went");
        BranchedText x = new BranchedText();
        Due.fine("of nothing", x, x.many(4), 0);
        Due.refused("row(0, 0)", x, x.row(0, 0), 5);
        x = Due.of("start ab; put 2 c; cut 0 3;");
        Due.fine("LETTERS", x, x.many(3), 0);
        Due.fine("ROW", x, x.many(4), 3);
        Due.fine("row(2, 0)", x, x.row(2, 0), 2);
        Due.fine("row(2, 2)", x, x.row(2, 2), 0);
        Due.refused("row(3, 0)", x, x.row(3, 0), 5);
        x.go(0);
        Due.fine("ROW of the START", x, x.many(4), 2);
        x = Due.of("put 0 abc;");
        Due.fine("ROW of 1", x, x.many(4), 3);
        x.go(0);
        Due.fine("ROW of an empty START", x, x.many(4), 0);
        Due.refused("row(0, 0)", x, x.row(0, 0), 5);
        x = Due.of("put 0 abc; withdraw 1;");
        Due.fine("LETTERS", x, x.many(3), 0);
        Due.fine("those of one that is WITHDRAWN, too", x, x.many(4), 3);
        rowAtItsLongest();
    }

    /** Six PUTS and one WITHDRAWN that has them all, again and again: 40 + 41 times 12 LETTERS. */
    private static void rowAtItsLongest() {
        BranchedText x = Due.of("start " + FORTY + ";");
        Due.type(x, TWELVE);
        int first = 1;
        for (int i = 1; i < 48; i++) {
            if (i % 7 == 0) {
                Due.due("WITHDRAWN", x.withdraw(first), i);
                first = i + 1;
            } else {
                Due.due("PUT", x.put(i == first ? 0 : 12), i);
            }
        }
        Due.fine("LETTERS", x, x.many(3), 100);
        Due.fine("ROW", x, x.many(4), 532);
        Due.fine("its first LETTER", x, x.row(0, 1), first);
        Due.fine("its last LETTER", x, x.row(531, 1), 0);
        Due.fine("it", x, x.row(531, 0), 13);
        Due.refused("one behind it", x, x.row(532, 0), 5);
        Due.fine("the last LETTER of the DOCUMENT", x, x.blame(99, 2), 531);
        Due.fine("ACTS not IN FORCE", x, x.many(8), 36);
    }

    private static void rightBehindWhatOneSees() {
        Due.says("a PUT's come right behind the LETTER that one SEES last ahead of the PLACE "
            + "(at the very beginning, if there is none), as it was at its PARENT");
        BranchedText x = Due.of("start ab; cut 0 2; put 0 x;");
        Due.due("none is seen: the very beginning", x.row(0, 1), 2);
        Due.due("then those that went", x.row(1, 1), 0);
        Due.due("put", Due.put(x, 1, "y"), 3);
        Due.due("right behind x", x.row(1, 1), 3);
        x.withdraw(1);
        Due.tells(x, 0, "xyab");
        x = Due.of("start abc; cut 1 1; put 1 x; put 2 y; withdraw 1;");
        Due.tells(x, 0, "axybc");
        x = Due.of("start abc; cut 1 2; put 1 x; withdraw 1;");
        Due.tells(x, 0, "axbc");
        x = Due.of("start abc; cut 0 1; put 0 x; withdraw 1;");
        Due.tells(x, 0, "xabc");
        // both behind the same LETTER: the later one is the nearer one
        x = Due.of("start a; put 1 b; put 1 c; withdraw 1;");
        Due.tells(x, 0, "ac");
        x.restore(1);
        Due.tells(x, 0, "acb");
        // what one SEES later does not move it
        x = Due.of("start ab; put 1 x; withdraw 1; put 1 y; restore 1;");
        Due.tells(x, 0, "ayxb");
    }

    private static void inForce() {
        Due.says("IN FORCE, if the last ACT of the LINE that named it was 3 (GIVEN BACK), or there is none.");
        BranchedText x = Due.of("put 0 a;");
        Due.fine("none named it", x, x.force(1, 1), 1);
        x.withdraw(1);
        Due.fine("the last one WITHDRAWN", x, x.force(1, 2), 0);
        Due.fine("not yet at its own", x, x.force(1, 1), 1);
        x.restore(1);
        Due.fine("the last one GIVEN BACK", x, x.force(1, 3), 1);
        x.withdraw(1);
        Due.fine("the last one WITHDRAWN again", x, x.force(1, 4), 0);
        x.go(1);
        Due.put(x, 0, "b");
        Due.fine("an ACT of another LINE", x, x.force(1, 5), 1);
    }

    private static void seen() {
        Due.says("One SEES a LETTER, if who put it in is IN FORCE (0 always), and no CUT that is IN FORCE took it");
        BranchedText x = Due.of("start ab; cut 0 1; withdraw 1; cut 0 1; restore 1;");
        Due.fine("two CUTS took it", x, x.row(0, 3), 2);
        Due.fine("is it seen?", x, x.row(0, 2), 0);
        x.withdraw(3);
        Due.fine("one CUT took it", x, x.row(0, 3), 1);
        Due.fine("is it seen?", x, x.row(0, 2), 0);
        x.withdraw(1);
        Due.fine("none took it", x, x.row(0, 3), 0);
        Due.fine("is it seen?", x, x.row(0, 2), 1);
        Due.tells(x, 0, "ab");
        // who put it in is not IN FORCE, and no CUT is
        x = Due.of("put 0 a; cut 0 1; withdraw 1;");
        Due.fine("is it seen?", x, x.row(0, 2), 0);
        Due.fine("CUTS IN FORCE", x, x.row(0, 3), 0);
    }

    private static void textOf700() {
        Due.says("A TEXT: at most 700 bytes.");
        BranchedText x = new BranchedText();
        StringBuilder text = new StringBuilder();
        while (text.length() < 690) {
            text.append(' ');
        }
        text.append("put 0 abc;");
        Due.feed(x, text.toString());
        Due.due("a byte more", x.feed(0, 0, 0, 0, 0), -1);
        Due.refused("load(701)", x, x.load(701), 1);
        Due.fine("load(700)", x, x.load(700), 2);
        Due.tells(x, 0, "abc");
    }

    private static void eachByte() {
        Due.says("TOKENS, as long as they go, between them blanks (10, 32): WORDS (small letters), "
            + "NUMBERS (1 to 3 digits), the SIGNS < = > [ ] ;");
        for (int b = 0; b < 256; b++) {
            BranchedText x = new BranchedText();
            x.feed(b << 24, 0, 0, 0, 0);
            if (b == 10 || b == 32) {
                Due.fine("load of byte " + b, x, x.load(1), 1);
                Due.due("fault(0) of byte " + b, x.fault(0), 0);
            } else {
                boolean token = b >= 'a' && b <= 'z' || b >= '0' && b <= '9' || "<=>[];".indexOf(b) >= 0;
                Due.refused("load of byte " + b, x, x.load(1), 9);
                Due.due("fault(0) of byte " + b, x.fault(0), token ? 2 : 1);
                Due.due("fault(1) of byte " + b, x.fault(1), 0);
            }
        }
        Due.of("put 0 az;\n\nput 2 za;");
    }

    private static void tokensAsLongAsTheyGo() {
        Due.says("TOKENS, as long as they go, between them blanks (10, 32)");
        Due.faulty("puts 0 a;", 2, 0);
        Due.faulty("undoredo;", 2, 0);
        Due.faulty("pu t 0 a;", 2, 0);
        Due.faulty("put 0 a b;", 2, 8);
        Due.faulty("wait 1 2;", 2, 7);
        Due.faulty("put 0 aputs;x", 2, 12);
        BranchedText x = Due.of("start b;join gap<12and[size>0];put0a;put 00 c;wait 123;cut 0 1;");
        Due.tells(x, 0, "ab");
        Due.due("NOW", x.many(2), 123);
        Due.of(" \n ");
        Due.of(" wait 1 ;\n");
    }

    private static void numbers() {
        Due.says("NUMBERS (1 to 3 digits)");
        BranchedText x = Due.of("wait 999;wait 000;wait 01;wait 7;");
        Due.due("NOW", x.many(2), 1007);
        Due.faulty("wait 1000;", 1, 5);
        Due.faulty("wait 0000;", 1, 5);
        Due.faulty("wait 4294967296;", 1, 5);
        Due.faulty("wait ;", 2, 5);
        Due.faulty("wait -1;", 1, 5);
        Due.of("join gap<999;");
        Due.faulty("join gap<1000;", 1, 9);
        Due.of("put 000 a;");
    }

    private static void partsOnceOrNot() {
        Due.says("TEXT: [start WORD ;] [join TEST ;] {LINE}. ({ } any number of times, [ ] around words once or not)");
        Due.of("");
        Due.of("start a;");
        Due.of("join gap<1;");
        Due.of("wait 1;");
        Due.of("start a;join gap<1;");
        Due.of("start a;cut 0 1;");
        Due.of("join gap<1;put 0 a;");
        Due.of("start a;join gap<1;put 0 a;put 0 a;put 0 a;");
        Due.faulty("start a;start b;", 2, 8);
        Due.faulty("join gap<1;join gap<1;", 2, 11);
        Due.faulty("join gap<1;start a;", 2, 11);
        Due.faulty("put 0 a;join gap<1;", 2, 8);
        Due.faulty("put 0 a;start b;", 2, 8);
        Due.faulty("start a", 2, 7);
        Due.faulty("start;", 2, 5);
        Due.faulty("start 1;", 2, 6);
        Due.faulty("start a;;", 2, 8);
        Due.faulty("join ;", 2, 5);
        Due.faulty("join gap<1", 2, 10);
    }

    private static void tests() {
        Due.says("TEST: SIDE { or SIDE }. SIDE: FACT { and FACT }. FACT: not FACT, [ TEST ], VALUE < NUMBER, VALUE = NUMBER, "
            + "VALUE > NUMBER. VALUE: gap, size, kind, same, near, long.");
        for (String value : new String[] {"gap", "size", "kind", "same", "near", "long"}) {
            Due.of("join " + value + "<0;");
            Due.of("join " + value + "=999;");
            Due.of("join " + value + ">0;");
            Due.faulty("join " + value + ";", 2, 5 + value.length());
            Due.faulty("join " + value + ">;", 2, 6 + value.length());
        }
        Due.faulty("join long >= 3;", 2, 11);
        Due.faulty("join 3 < gap;", 2, 5);
        Due.faulty("join gaps<1;", 2, 5);
        Due.faulty("join place<1;", 2, 5);
        Due.faulty("join or gap<1;", 2, 5);
        Due.faulty("join gap<1 gap<1;", 2, 11);
        Due.faulty("join gap<1 and or gap<1;", 2, 15);
        Due.faulty("join gap<1 not gap<1;", 2, 11);
        Due.faulty("join [gap<1;", 2, 11);
        Due.faulty("join [gap<1]];", 2, 12);
        Due.faulty("join [];", 2, 6);
        truths();
        longTests();
    }

    /** What holds of so and not so: not ahead of and, and ahead of or, [ ] ahead of all. */
    private static void truths() {
        String so = "gap=0";
        String not = "gap>0";
        truth(so, true);
        truth(not, false);
        truth("not " + so, false);
        truth("not " + not, true);
        truth("[" + not + "]", false);
        truth(so + " and " + so, true);
        truth(so + " and " + not, false);
        truth(not + " and " + so, false);
        truth(not + " and " + not, false);
        truth(so + " or " + so, true);
        truth(so + " or " + not, true);
        truth(not + " or " + so, true);
        truth(not + " or " + not, false);
        truth(so + " or " + so + " and " + not, true);
        truth(not + " and " + not + " or " + so, true);
        truth("[" + so + " or " + so + "] and " + not, false);
        truth(not + " and [" + not + " or " + so + "]", false);
        truth("not " + so + " or " + so, true);
        truth("not [" + so + " or " + so + "]", false);
        truth("not " + not + " and " + not, false);
        truth("not [" + not + " and " + not + "]", true);
        truth(not + " and " + so + " and " + so, false);
        truth(so + " or " + not + " or " + not, true);
    }

    private static void truth(String test, boolean holds) {
        Due.due("the GROUP with " + test, Due.of("join " + test + ";put 0 a;put 0 a;").state(2, 5), holds ? 1 : 2);
    }

    /** As many FACTS as 700 bytes hold, of which the last one alone decides. */
    private static void longTests() {
        String or = "join gap>0";
        while (or.length() < 690) {
            or += "or gap>0";
        }
        longTest(or + ";", 2);
        longTest(or + "or gap=0;", 1);
        String and = "join gap=0";
        while (and.length() < 685) {
            and += "and gap=0";
        }
        longTest(and + ";", 1);
        longTest(and + "and gap>0;", 2);
    }

    private static void longTest(String text, int first) {
        BranchedText x = Due.of(text);
        Due.put(x, 0, "a");
        Due.put(x, 0, "b");
        Due.due("the GROUP with " + text, x.state(2, 5), first);
    }

    private static void startOf40() {
        Due.says("start: a WORD of 1 to 40 letters (none without).");
        Due.due("none", Due.of("wait 1;").many(3), 0);
        Due.due("1", Due.of("start z;").many(3), 1);
        BranchedText x = Due.of("start " + FORTY + ";");
        Due.due("40", x.many(3), 40);
        Due.due("the last one", x.letter(0, 39), 13);
        Due.due("the last one in the ROW", x.row(39, 0), 13);
        Due.refused("no other one", x, x.letter(0, 40), 5);
        Due.faulty("start " + FORTY + "o;", 4, 6);
        Due.faulty("start ;", 2, 6);
    }

    private static void eachLine() {
        Due.says("Each LINE is as the call of that name with that (wait: 0 to 999).");
        line("", "put 0 " + TWELVE + ";", "put 1 a;");
        line("start ab;", "put 2 a;", "put 3 a;");
        line("start abcdefghijklm;", "cut 1 12;", "cut 0 13;");
        line("start ab;", "cut 1 1;", "cut 1 2;");
        line("start ab;", "cut 0 1;", "cut 0 0;");
        line("", "wait 0;", "undo;");
        line("", "wait 999;", "redo;");
        line("put 0 a;", "undo;", "redo;");
        line("put 0 a;undo;", "redo;", "undo;");
        line("put 0 a;", "go 0;", "go 1;");
        line("put 0 a;", "go 0;", "go 2;");
        line("put 0 a;", "go 0;", "go 48;");
        line("put 0 a;", "name abcdef;", "go 999;");
        line("name a;", "name b;", "name a;");
        line("put 0 a;", "withdraw 1;", "withdraw 0;");
        line("put 0 a;withdraw 1;", "restore 1;", "withdraw 1;");
        line("put 0 a;withdraw 1;", "restore 1;", "restore 2;");
        line("put 0 a;", "withdraw 1;", "restore 1;");
        line("put 0 a;go 0;", "carry 1;", "carry 0;");
        line("put 0 a;put 1 b;go 0;", "carry 1;", "carry 2;");
        line("put 0 a;go 0;", "merge 1;", "merge 0;");
        line("start a;cut 0 1;go 0;cut 0 1;", "merge 1;", "carry 1;");
        line("", "prune 1;", "prune 0;");
        line("put 0 a;", "prune 48;", "prune 49;");
        line("name a;name b;name c;name d;name e;name f;name g;name h;name i;name j;name k;", "name l;", "name a;");
        line("name a;name b;name c;name d;name e;name f;name g;name h;name i;name j;name k;name l;put 0 q;",
            "name a;", "name m;");
        StringBuilder many = new StringBuilder();
        for (int i = 0; i < 46; i++) {
            many.append("put0a;");
        }
        line(many.toString(), "put 0 a;", "put 47 a;");
        line(many + "put0a;", "wait 1;", "put 0 a;");
        StringBuilder full = new StringBuilder("start " + FORTY + ";");
        for (int i = 0; i < 6; i++) {
            full.append("put 0 ").append(TWELVE).append(";");
        }
        line(full.toString(), "put 0 abcdefgh;", "put 0 abcdefghi;");
    }

    /** Behind some LINES one that is done, and one that is refused at its end. */
    private static void line(String ahead, String fine, String refused) {
        Due.of(ahead + fine);
        Due.faulty(ahead + refused, 7, ahead.length() + refused.length() - 1);
    }

    private static void theFirstFault() {
        Due.says("FAULTS, the first along the text (of one TOKEN the least kind)");
        Due.faulty("undo; #", 7, 4);
        Due.faulty("undo; undo", 7, 4);
        Due.faulty("undo #", 1, 5);
        Due.faulty("undo", 2, 4);
        Due.faulty("put 0 " + TWELVE + "m #;", 4, 6);
        Due.faulty("put 9 " + TWELVE + "m;", 4, 6);
        Due.faulty("put 9 a", 2, 7);
        Due.faulty("# undo;", 1, 0);
        Due.faulty("undo 1000;", 1, 5);
        Due.faulty("1000", 1, 0);
        Due.faulty("put 0 1000;", 1, 6);
        Due.faulty("put " + TWELVE + "m;", 2, 4);
        Due.faulty("go abcdefgh;", 2, 3);
        Due.faulty(FORTY + "o;", 2, 0);
        Due.faulty("start a b; start " + FORTY + "o;", 2, 8);
        Due.faulty("name abcdefg", 4, 5);
        Due.faulty("start abc # " + FORTY, 1, 10);
        Due.faulty("join [[[[[[[1000", 6, 11);
        Due.faulty("join [[[[[[1000", 1, 11);
        Due.faulty("join [[[[[[;", 2, 11);
    }

    private static void noToken() {
        Due.says("1 no TOKEN begins so (a NUMBER of 4 digits and more: at its first)");
        Due.faulty("wait 1234;", 1, 5);
        Due.faulty("wait 12345;", 1, 5);
        Due.faulty("put 0 a;wait 1234;", 1, 13);
        Due.faulty("put 0 Ab;", 1, 6);
        Due.faulty("put 0 aB;", 1, 7);
        Due.faulty("put,0 a;", 1, 3);
        Due.faulty("wait 1.5;", 1, 6);
        Due.faulty("put 0 a; \t", 1, 9);
        Due.faulty("join gap<=1!;", 2, 9);
        for (String head : HEADS) {
            Due.faulty(head + " #", 1, head.length() + 1);
            Due.faulty(head + " 1000;", 1, head.length() + 1);
        }
    }

    private static void itCanNotStandThere() {
        Due.says("2 it can't stand there (the end: the text's length)");
        for (String head : HEADS) {
            Due.faulty(head, 2, head.length());
            Due.faulty(head + " \n ", 2, head.length() + 3);
            Due.faulty(head + "<", 2, head.equals("join gap") ? 9 : head.length());
        }
        Due.faulty("cut 0 a;", 2, 6);
        Due.faulty("cut a 0;", 2, 4);
        Due.faulty("name 1;", 2, 5);
        Due.faulty("undo 1;", 2, 5);
        Due.faulty("name a b;", 2, 7);
        Due.faulty("go 1 1;", 2, 5);
        Due.faulty("put a;", 2, 4);
    }

    private static void wordsTooLong() {
        Due.says("4 a WORD that is too long (of start: 41 letters, of put: 13, of name: 7)");
        Due.of("start " + FORTY + ";");
        Due.faulty("start " + FORTY + "a;", 4, 6);
        Due.faulty("start " + FORTY + FORTY + FORTY + ";", 4, 6);
        Due.of("put 0 " + TWELVE + ";");
        Due.faulty("put 0 " + TWELVE + "a;", 4, 6);
        Due.faulty("put 0 " + FORTY + FORTY + ";", 4, 6);
        Due.of("name abcdef;");
        Due.faulty("name abcdefg;", 4, 5);
        Due.faulty("name " + FORTY + ";", 4, 5);
    }

    private static void aSeventh() {
        Due.says("6 a seventh of not, [ within one another (at it)");
        Due.of("join [[[[[[gap<1]]]]]];");
        Due.faulty("join [[[[[[[gap<1]]]]]]];", 6, 11);
        Due.of("join not not not not not not gap<1;");
        Due.faulty("join not not not not not not not gap<1;", 6, 29);
        Due.of("join not[not[not[gap<1]]];");
        Due.faulty("join not[not[not[[gap<1]]]];", 6, 17);
        Due.faulty("join not[not[not[not gap<1]]];", 6, 17);
        Due.faulty("join [[[[[[gap<1 or gap<1 and not gap<1]]]]]];", 6, 30);
        // side by side they are not within one another
        Due.of("join [[[[[[gap<1]]]]]] or [[[[[[gap<1]]]]]] and not not not not not not gap<1;");
        Due.of("join [gap<1] and [gap<1] and [gap<1] and [gap<1] and [gap<1] and [gap<1] and [gap<1] and [gap<1];");
        // six of them are taken as they are said
        String acts = "put 0 a;put 0 a;";
        Due.due("six times not", Due.of("join not not not not not not gap=0;" + acts).state(2, 5), 1);
        Due.due("five times not", Due.of("join not not not not not gap=0;" + acts).state(2, 5), 2);
        Due.due("not and [", Due.of("join not [not [not [gap=0]]];" + acts).state(2, 5), 2);
    }

    private static void atTheEndOfALine() {
        Due.says("At the ; of a LINE: 7 the call is refused.");
        Due.faulty("undo \n ;", 7, 7);
        Due.faulty("put 0 a; redo ;", 7, 14);
        Due.faulty("put 0 a;put 3 b;put 1 c;", 7, 15);
    }

    private static void allAnew() {
        Due.says("load() makes all anew: HERE is the START, NOW 0, no NAMES.");
        BranchedText x = Due.of("start abc; join gap<9; put 0 x; name k; wait 5; withdraw 1;");
        for (int i = 0; i < 4; i++) {
            Due.fine("load(0)", x, x.load(0), 1);
            isAnew(x);
            Due.put(x, 0, "a");
            Due.put(x, 0, "b");
            Due.fine("its GROUP, without a TEST", x, x.state(2, 5), 2);
            Due.name(x, "k");
            x.wait(5);
        }
        // behind one with a FAULT, too
        Due.refused("load", x, Due.load(x, "start abc;join gap<9;put 0 x;name k;wait 5;undo;undo;"), 9);
        Due.fine("load(0)", x, x.load(0), 1);
        isAnew(x);
        // no TEST is left of the longest one
        StringBuilder longest = new StringBuilder("join gap=0");
        while (longest.length() < 698) {
            longest.append("or gap=0");
        }
        for (int i = 0; i < 3; i++) {
            Due.load(x, longest + ";");
            for (String text : new String[] {"put 0 a;put 1 b;", "put 0 a;put 0 b;", "put 0 a;put 1 b;", "put 0 a;put 0 b;"}) {
                Due.load(x, text);
                Due.fine("the GROUP of 2 of " + text, x, x.state(2, 5), text.equals("put 0 a;put 1 b;") ? 1 : 2);
            }
        }
    }

    /** OUT and the word typed are no part of what is made anew: tell() and type() alone make them other ones. */
    private static void notAnew() {
        Due.says("load() makes all anew: HERE is the START, NOW 0, no NAMES.");
        BranchedText x = Due.of("start abc;name k;");
        x.tell(2);
        Due.type(x, "zz");
        Due.fine("load", x, Due.load(x, "start q;put 0 r;name m;"), 2);
        Due.fine("OUT as it was told", x, x.out(0), 'k');
        Due.fine("OUT as it was told", x, x.out(2), '0');
        Due.refused("OUT as it was told", x, x.out(3), 5);
        Due.fine("the word typed", x, x.put(0), 2);
        Due.tells(x, 0, "zzrq");
        Due.fine("load(0)", x, x.load(0), 1);
        Due.fine("OUT as it was told", x, x.out(0), 'z');
        Due.fine("the word typed", x, x.name(), 1);
        Due.tells(x, 2, "zz=0");
    }

    private static void isAnew(BranchedText x) {
        int[] want = {1, 0, 0, 0, 0, 0, 1, 0, 0, 0};
        for (int what = 0; what < want.length; what++) {
            Due.fine("many(" + what + ")", x, x.many(what), want[what]);
        }
        Due.refused("visit(0, 0)", x, x.visit(0, 0), 5);
        Due.refused("state(1, 0)", x, x.state(1, 0), 2);
        Due.refused("redo()", x, x.redo(), 5);
        Due.type(x, "k");
        Due.refused("named()", x, x.named(), 5);
    }

    public static void main(String[] args) {
        documentOf120();
        fortyEightStates();
        emptyNumbers();
        putAtItsEdges();
        cutAtItsEdges();
        linesOfOneAndAll();
        rowOfAllThatWent();
        rightBehindWhatOneSees();
        inForce();
        seen();
        textOf700();
        eachByte();
        tokensAsLongAsTheyGo();
        numbers();
        partsOnceOrNot();
        tests();
        startOf40();
        eachLine();
        theFirstFault();
        noToken();
        itCanNotStandThere();
        wordsTooLong();
        aSeventh();
        atTheEndOfALine();
        allAnew();
        notAnew();
        Due.end("TermsEdgesTest");
    }
}
