/** Each sentence of the document's sections 2 to 5 that names an edge, with a test of its own. */
public final class SectionsEdgesTest {
    private static final String FORTY = "abcdefghijklmnopqrstuvwxyzabcdefghijklmn";
    private static final String TWELVE = "abcdefghijkl";
    /** HERE is 5, its LINE 0<1<2<5, its DOCUMENT qaxyzbc; 3 is the CUT of a, 4 WITHDRAWN. */
    private static final String SOME = "start abc; put 1 xy; wait 2; put 3 z; cut 0 1; withdraw 1; name k; go 2; put 0 q; name l;";

    /** A call on an object. */
    private interface Call {
        int on(BranchedText x);
    }

    private static void group(String text, int state, int first) {
        BranchedText x = Due.of(text);
        Due.fine("the first of the GROUP of " + state + " of " + text, x, x.state(state, 5), first);
    }

    // ==== 2.

    private static void aNewState() {
        Due.says("As a PUT or a CUT comes, it is a new STATE, with HERE as PARENT, at NOW; HERE is that then.");
        BranchedText x = Due.of("start abc;");
        Due.fine("put(0)", x, Due.put(x, 0, "x"), 1);
        Due.fine("its TIME", x, x.state(1, 2), 0);
        Due.fine("its PARENT", x, x.state(1, 0), 0);
        x.wait(999);
        x.wait(999);
        Due.fine("cut(0, 1)", x, x.cut(0, 1), 2);
        Due.fine("its TIME", x, x.state(2, 2), 1998);
        Due.fine("its PARENT", x, x.state(2, 0), 1);
        Due.fine("HERE", x, x.many(1), 2);
        Due.fine("the TIME of the START", x, x.state(0, 2), 0);
    }

    private static void joinsWithoutTest() {
        Due.says("It JOINS the GROUP of its PARENT, if that is a PUT or a CUT too (not the START), and TEST holds "
            + "(without one: gap < 3 and same = 1 and near = 1 and size < 8), else it begins one");
        group("put 0 a;put 1 b;", 2, 1);
        group("put 0 a;wait 2;put 1 b;", 2, 1);
        group("put 0 a;wait 3;put 1 b;", 2, 2);
        group("put 0 a;wait 2;put 1 b;wait 2;put 2 c;", 3, 1);
        group("put 0 ab;cut 1 1;", 2, 2);
        group("start ab;cut 1 1;put 1 c;", 2, 2);
        group("start ab;cut 1 1;cut 0 1;", 2, 1);
        group("put 0 ab;put 1 c;", 2, 2);
        String seven = "put0a;put1a;put2a;put3a;put4a;put5a;put6a;";
        group(seven + "put7a;", 8, 1);
        group(seven + "put7a;put8a;", 9, 9);
        group(seven + "put7a;put8a;put9a;", 10, 9);
        // the START has no GROUP that one could join
        group("start a;put 1 b;", 1, 1);
        group("start a;join gap=0;put 1 b;", 1, 1);
        group("start a;join gap=0;put 1 b;", 0, 0);
        group("start a;join gap=0;cut 0 1;", 1, 1);
        // nor have a WITHDRAWN and a GIVEN BACK
        group("join gap=0;put 0 a;withdraw 1;put 0 b;", 3, 3);
        group("join gap=0;put 0 a;withdraw 1;restore 1;put 0 b;", 4, 4);
        group("join gap=0;put 0 a;withdraw 1;put 0 b;put 0 c;", 4, 3);
    }

    private static void gap() {
        Due.says("gap: its TIME less its PARENT's");
        group("join gap=0;put 0 a;put 0 a;", 2, 1);
        group("join gap<1;put 0 a;wait 1;put 0 a;", 2, 2);
        group("join gap=5;put 0 a;wait 5;go 0;go 1;put 0 a;", 2, 1);
        group("join gap=2;put 0 a;wait 1;put 0 a;wait 2;put 0 a;", 3, 2);
        group("join gap>0;put 0 a;put 0 a;", 2, 2);
    }

    private static void size() {
        Due.says("size: how many STATES its PARENT's GROUP has up to its PARENT");
        String four = "put 0 a;put 0 b;put 0 c;put 0 d;";
        group("join size=1;" + four, 2, 1);
        group("join size=1;" + four, 3, 3);
        group("join size=1;" + four, 4, 3);
        group("join size<1;" + four, 2, 2);
        group("join size<3;" + four, 3, 1);
        group("join size<3;" + four, 4, 4);
        group("join size>0;" + four, 4, 1);
        group("join size=2;put 0 a;put 0 b;", 2, 2);
        // those behind its PARENT, and beside it, do not count
        group("join size<2;put 0 a;put 0 b;go 1;put 0 c;", 3, 1);
        group("join size<3;put 0 a;put 0 b;put 0 c;go 2;put 0 d;", 4, 1);
    }

    private static void kindSameLong() {
        Due.says("kind: its ACT (0, 1); same: 1 if its PARENT's ACT is of its kind, else 0; "
            + "long: how many letters it puts in or cuts.");
        group("join kind=0;put 0 ab;put 0 a;", 2, 1);
        group("join kind=0;put 0 ab;cut 0 1;", 2, 2);
        group("join kind=1;put 0 ab;cut 0 1;", 2, 1);
        group("join kind=1;put 0 ab;put 0 a;", 2, 2);
        group("join kind>1;put 0 ab;cut 0 1;", 2, 2);
        group("join same=1;put 0 ab;put 0 a;", 2, 1);
        group("join same=1;put 0 ab;cut 0 1;", 2, 2);
        group("join same=0;put 0 ab;cut 0 1;", 2, 1);
        group("join same=1;put 0 ab;cut 0 1;cut 0 1;", 3, 3 - 1);
        group("join same>1;put 0 ab;put 0 a;", 2, 2);
        group("join long=1;put 0 ab;put 0 a;", 2, 1);
        group("join long=12;put 0 ab;put 0 " + TWELVE + ";", 2, 1);
        group("join long>11;put 0 ab;put 0 abcdefghijk;", 2, 2);
        group("join long=12;put 0 " + TWELVE + ";cut 0 12;", 2, 1);
        group("join long<2;put 0 ab;cut 0 2;", 2, 2);
        group("join long<2;put 0 ab;cut 0 1;", 2, 1);
        group("join long>12;put 0 ab;put 0 " + TWELVE + ";", 2, 2);
    }

    private static void near() {
        Due.says("NEAR: a PUT whose PLACE is where its PARENT's PUT ended, or where its PARENT's CUT was; a CUT that ends or begins "
            + "where its PARENT's CUT was, or that ends where its PARENT's PUT ended.");
        String put = "start abcdef;join near=1;put 2 xyz;";
        near(put, "put 5 q;", 1);
        near(put, "put 4 q;", 0);
        near(put, "put 6 q;", 0);
        near(put, "put 2 q;", 0);
        near(put, "cut 4 1;", 1);
        near(put, "cut 2 3;", 1);
        near(put, "cut 1 4;", 1);
        near(put, "cut 5 1;", 0);
        near(put, "cut 3 1;", 0);
        near(put, "cut 4 2;", 0);
        near(put, "cut 2 1;", 0);
        String cut = "start abcdefghij;join near=1;cut 3 2;";
        near(cut, "put 3 q;", 1);
        near(cut, "put 2 q;", 0);
        near(cut, "put 4 q;", 0);
        near(cut, "put 5 q;", 0);
        near(cut, "cut 2 1;", 1);
        near(cut, "cut 0 3;", 1);
        near(cut, "cut 3 1;", 1);
        near(cut, "cut 3 5;", 1);
        near(cut, "cut 2 2;", 0);
        near(cut, "cut 1 1;", 0);
        near(cut, "cut 4 1;", 0);
        near(cut, "cut 5 1;", 0);
        // at both ends of a DOCUMENT
        near("join near=1;put 0 a;", "put 1 b;", 1);
        near("join near=1;put 0 a;", "put 0 b;", 0);
        near("start ab;join near=1;cut 0 1;", "cut 0 1;", 1);
        near("start ab;join near=1;cut 1 1;", "put 1 c;", 1);
        near("start ab;join near=1;cut 0 2;", "put 0 c;", 1);
    }

    private static void near(String ahead, String line, int due) {
        group(ahead + line, 2, due == 1 ? 1 : 2);
    }

    private static void withdrawnBeginsOne() {
        Due.says("2 and 3 always begin a GROUP.");
        String ahead = "join gap=0 or gap>0;put 0 ab;put 0 c;";
        group(ahead, 2, 1);
        group(ahead + "withdraw 1;", 3, 3);
        group(ahead + "withdraw 1;withdraw 2;", 4, 4);
        group(ahead + "withdraw 1;restore 1;", 4, 4);
        group(ahead + "withdraw 1;restore 1;withdraw 1;", 5, 5);
    }

    private static void numbersAsTheyAre() {
        Due.says("All numbers of TEST are as they are.");
        group("join gap<999;put 0 a;wait 998;put 0 b;", 2, 1);
        group("join gap<999;put 0 a;wait 999;put 0 b;", 2, 2);
        group("join gap>999;put 0 a;wait 999;put 0 b;", 2, 2);
        group("join gap>999;put 0 a;wait 999;wait 1;put 0 b;", 2, 1);
        group("join gap=256;put 0 a;wait 256;put 0 b;", 2, 1);
        group("join gap=0;put 0 a;wait 256;put 0 b;", 2, 2);
        group("join gap=007;put 0 a;wait 7;put 0 b;", 2, 1);
        // 65536, and it is not 0
        BranchedText x = Due.of("join gap<3;put 0 a;");
        for (int i = 0; i < 65; i++) {
            x.wait(999);
        }
        Due.due("NOW", x.wait(601), 65536);
        Due.due("put", Due.put(x, 0, "b"), 2);
        Due.due("GROUP", x.state(2, 5), 2);
        // a GROUP of all STATES that can be
        x = Due.of("join size<999;");
        Due.type(x, "a");
        for (int i = 1; i < 48; i++) {
            x.put(0);
        }
        Due.fine("the first of its GROUP", x, x.state(47, 5), 1);
        Due.fine("GROUPS", x, x.many(7), 1);
        Due.fine("undo()", x, x.undo(), 0);
        Due.fine("redo()", x, x.redo(), 47);
    }

    private static void visits() {
        Due.says("VISITS: each time HERE is another STATE, that is VISITED (as it comes, too; one that one goes through is not).");
        BranchedText x = Due.of("put 0 a;put 1 b;put 2 c;");
        Due.fine("as they come", x, x.many(9), 3);
        x.go(3);
        x.wait(1);
        Due.name(x, "k");
        x.unname();
        x.prune(48);
        x.merges(0, 0);
        Due.fine("HERE is no other one", x, x.many(9), 3);
        x.undo();
        Due.fine("undo()", x, x.many(9), 4);
        x.undo();
        Due.fine("undo() that is refused", x, x.many(9), 4);
        x.redo();
        Due.fine("redo()", x, x.many(9), 5);
        Due.fine("the latest one", x, x.visit(0, 0), 3);
        Due.fine("the one ahead of it", x, x.visit(1, 0), 0);
        x.redo();
        Due.fine("redo() that is refused", x, x.many(9), 5);
        x.go(0);
        Due.put(x, 0, "d");
        x.merge(3);
        Due.fine("each that was CARRIED", x, x.many(9), 10);
        Due.fine("STATES", x, x.many(0), 8);
        x.withdraw(4);
        x.restore(4);
        Due.fine("a WITHDRAWN, a GIVEN BACK", x, x.many(9), 12);
        x.load(0);
        Due.fine("the START of a new one is not", x, x.many(9), 0);
    }

    private static void latest() {
        Due.says("LATEST of several is that of which, or of any below it (by PARENTS), the last VISIT was the latest.");
        BranchedText x = Due.of("put 0 a;go 0;put 0 b;go 0;put 0 c;");
        children(x, 3, 2, 1);
        x.go(1);
        children(x, 1, 3, 2);
        x.go(2);
        Due.put(x, 0, "d");
        x.wait(3);
        Due.put(x, 0, "e");
        children(x, 2, 1, 3);
        x.go(3);
        children(x, 3, 2, 1);
        // one far below
        x.go(5);
        x.go(0);
        children(x, 2, 3, 1);
        // one that went is below it no longer
        x = Due.of("put 0 a;go 0;put 0 b;name k;go 0;put 0 c;go 1;put 0 d;go 3;go 0;");
        children(x, 3, 1, 2);
        x.go(2);
        x.go(4);
        x.go(0);
        x.go(3);
        children(x, 3, 1, 2);
        Due.fine("prune(4)", x, x.prune(4), 1);
        Due.refused("4 went", x, x.state(4, 0), 2);
        children(x, 3, 2, 1);
    }

    private static void children(BranchedText x, int... want) {
        for (int i = 0; i < want.length; i++) {
            Due.fine("child(0, " + i + ")", x, x.child(0, i), want[i]);
        }
        Due.refused("child(0, " + want.length + ")", x, x.child(0, want.length), 5);
    }

    private static void undo() {
        Due.says("undo(): HERE goes to the PARENT of the first STATE of its GROUP.");
        BranchedText x = Due.of("put 0 a;put 1 b;put 2 c;wait 3;put 3 d;");
        Due.fine("a GROUP of one", x, x.undo(), 3);
        Due.fine("from the last one of a GROUP", x, x.undo(), 0);
        Due.refused("the START", x, x.undo(), 5);
        x.go(2);
        Due.fine("from within", x, x.undo(), 0);
        x.go(1);
        Due.fine("from the first one", x, x.undo(), 0);
    }

    private static void redo() {
        Due.says("redo(): HERE goes to its LATEST child, and from there on to the LATEST child again and again, "
            + "as long as that is of the GROUP of the first one.");
        BranchedText x = Due.of("put 0 a;put 1 b;put 2 c;wait 3;put 3 d;put 4 e;go 0;");
        Due.fine("all of the GROUP", x, x.redo(), 3);
        Due.fine("all of the next one", x, x.redo(), 5);
        Due.refused("no child", x, x.redo(), 5);
        x.go(2);
        Due.fine("the rest of the GROUP", x, x.redo(), 3);
        // the LATEST child is of another GROUP, an earlier one is of this
        x.go(1);
        Due.put(x, 0, "q");
        x.go(0);
        Due.fine("it ends ahead of the LATEST", x, x.redo(), 1);
        Due.fine("that", x, x.redo(), 6);
        // a GIVEN BACK is a GROUP alone
        x = Due.of("join gap=0;put 0 a;withdraw 1;restore 1;put 0 b;put 0 c;go 0;");
        int[] want = {1, 2, 3, 5};
        for (int due : want) {
            Due.fine("redo()", x, x.redo(), due);
        }
    }

    private static void way() {
        Due.says("The WAY from a STATE to another one: by PARENTS to the nearest STATE of both LINES, then down.");
        BranchedText x = Due.of("join gap=0;");
        Due.fine("from the START to itself", x, x.way(0, 0, 0), 0);
        Due.refused("no more", x, x.way(0, 0, 1), 5);
        Due.type(x, "a");
        for (int i = 1; i < 48; i++) {
            if (i == 24) {
                x.go(0);
            }
            x.put(0);
        }
        // 23 down to 1, the START, 24 up to 47
        for (int i = 0; i < 48; i++) {
            Due.fine("way(23, 47, " + i + ")", x, x.way(23, 47, i), i < 24 ? 23 - i : i);
            Due.fine("way(47, 23, " + i + ")", x, x.way(47, 23, i), i < 24 ? 47 - i : i - 24);
        }
        Due.refused("way(23, 47, 48)", x, x.way(23, 47, 48), 5);
        Due.fine("go(23)", x, x.go(23), 47);
        Due.fine("go(0)", x, x.go(0), 23);
        Due.fine("way(23, 0, 23)", x, x.way(23, 0, 23), 0);
        Due.refused("way(23, 0, 24)", x, x.way(23, 0, 24), 5);
        Due.fine("way(0, 23, 23)", x, x.way(0, 23, 23), 23);
        Due.refused("way(0, 23, 24)", x, x.way(0, 23, 24), 5);
    }

    private static void names() {
        Due.says("NAMES, at most 12: each a WORD (1 to 6 letters) of one STATE; a NAME that is told anew is of the new one.");
        BranchedText x = Due.of("put 0 a;");
        Due.refused("no letter", x, Due.name(x, ""), 1);
        Due.refused("7 letters", x, Due.name(x, "zzzzzzz"), 1);
        Due.refused("12 letters", x, Due.name(x, TWELVE), 1);
        Due.fine("1 letter", x, Due.name(x, "z"), 1);
        Due.fine("6 letters", x, Due.name(x, "zzzzzz"), 2);
        for (int i = 3; i <= 12; i++) {
            Due.fine("NAME " + i, x, Due.name(x, "zz" + (char) ('a' + i)), i);
        }
        Due.refused("a 13th one", x, Due.name(x, "zz"), 3);
        x.go(0);
        Due.refused("a 13th one elsewhere", x, Due.name(x, "zz"), 3);
        Due.fine("one told anew", x, Due.name(x, "zzzzzz"), 12);
        Due.fine("of the new one", x, x.named(), 0);
        Due.fine("the new one has", x, x.state(0, 9), 1);
        Due.fine("the other one has", x, x.state(1, 9), 11);
        Due.fine("unname()", x, x.unname(), 11);
        Due.fine("another one instead", x, Due.name(x, "zz"), 12);
    }

    // ==== 3.

    private static void leansOn() {
        Due.says("the later one LEANS ON the other one, if it took a LETTER that the other one put in, "
            + "or what it put in came right behind a LETTER that the other one put in.");
        BranchedText x = Due.of("start a;put 1 bc;put 3 d;cut 0 4;put 0 e;");
        Due.fine("behind its last letter", x, x.leans(2, 1), 1);
        Due.fine("took some of 1", x, x.leans(3, 1), 1);
        Due.fine("took some of 2", x, x.leans(3, 2), 1);
        Due.fine("where nothing is seen", x, x.leans(4, 3), 0);
        Due.fine("where nothing is seen", x, x.leans(4, 1), 0);
        x = Due.of("start a;put 1 bc;put 2 d;put 1 e;put 0 f;cut 0 1;");
        Due.fine("behind its first letter", x, x.leans(2, 1), 1);
        Due.fine("ahead of its first letter", x, x.leans(3, 1), 0);
        Due.fine("at the very beginning", x, x.leans(4, 1), 0);
        Due.fine("took none of it", x, x.leans(5, 1), 0);
        Due.fine("took its only one", x, x.leans(5, 4), 1);
        // right behind as one sees it
        x = Due.of("put 0 a;put 1 b;cut 1 1;put 1 c;");
        Due.fine("behind what one sees", x, x.leans(4, 1), 1);
        Due.fine("not behind what went", x, x.leans(4, 2), 0);
        Due.fine("on a CUT none leans", x, x.leans(4, 3), 0);
    }

    private static void leaning() {
        Due.says("LEANING of a STATE: all STATES of the LINE of HERE that lean on it, or on one that does, and itself.");
        BranchedText x = Due.of("join gap=0;");
        Due.type(x, "a");
        for (int i = 1; i <= 45; i++) {
            x.put(i - 1);
        }
        Due.fine("of the last one", x, x.leaning(45, 0), 1);
        Due.fine("of the one ahead of it", x, x.leaning(44, 0), 2);
        Due.fine("of the first one", x, x.leaning(1, 0), 45);
        Due.fine("withdraw(1)", x, x.withdraw(1), 46);
        Due.fine("it names", x, x.state(46, 4), 45);
        Due.fine("LETTERS", x, x.many(3), 0);
        Due.fine("restore(45)", x, x.restore(45), 47);
        Due.fine("it names", x, x.state(47, 4), 45);
        Due.fine("LETTERS", x, x.many(3), 45);
        x.go(2);
        Due.fine("what is below HERE is not of it", x, x.leaning(1, 0), 2);
    }

    private static void withdraw() {
        Due.says("withdraw(): a STATE of the LINE of HERE that is a PUT or a CUT and IN FORCE: a new STATE, WITHDRAWN: "
            + "all of LEANING that are IN FORCE.");
        BranchedText x = Due.of("put 0 a;put 1 b;put 0 c;withdraw 2;");
        Due.fine("itself alone", x, x.state(4, 4), 1);
        Due.refused("it is not IN FORCE", x, x.withdraw(2), 4);
        Due.fine("withdraw(1)", x, x.withdraw(1), 5);
        Due.fine("2 is not named again", x, x.state(5, 4), 1);
        Due.tells(x, 0, "c");
        Due.fine("withdraw(3)", x, x.withdraw(3), 6);
        Due.tells(x, 0, "");
        Due.refused("a WITHDRAWN", x, x.withdraw(6), 7);
        Due.refused("the START", x, x.withdraw(0), 7);
        x.go(2);
        Due.refused("one below HERE", x, x.withdraw(3), 7);
    }

    private static void restore() {
        Due.says("restore(): one that is not IN FORCE: a new STATE, GIVEN BACK: it, and all on which it leans, "
            + "or one of these does, that are not IN FORCE.");
        BranchedText x = Due.of("put 0 a;put 1 b;put 2 c;put 0 d;withdraw 1;");
        Due.tells(x, 0, "d");
        Due.fine("restore(1)", x, x.restore(1), 6);
        Due.fine("itself alone", x, x.state(6, 4), 1);
        Due.tells(x, 0, "da");
        Due.fine("restore(3)", x, x.restore(3), 7);
        Due.fine("1 is not named again", x, x.state(7, 4), 2);
        Due.tells(x, 0, "dabc");
        Due.refused("it is IN FORCE", x, x.restore(3), 4);
        Due.refused("it is IN FORCE", x, x.restore(4), 4);
        Due.refused("a GIVEN BACK", x, x.restore(7), 7);
        Due.refused("the START", x, x.restore(0), 7);
        // those ahead of it on which it does not lean stay as they are
        x = Due.of("put 0 a;put 1 b;put 0 c;withdraw 1;withdraw 3;");
        Due.fine("restore(3)", x, x.restore(3), 6);
        Due.fine("itself alone", x, x.state(6, 4), 1);
        Due.tells(x, 0, "c");
        Due.refused("3 is IN FORCE", x, x.restore(3), 4);
        Due.fine("restore(1)", x, x.restore(1), 7);
        Due.tells(x, 0, "ca");
    }

    private static void numbersUsedAgain() {
        Due.says("a new one has the least number that none has");
        // nothing of the one that had it is left: what it named, on what it leaned, its GROUP, NAMES and children
        BranchedText x = Due.of("put 0 a;withdraw 1;go 1;withdraw 1;prune 3;put 0 b;");
        Due.due("HERE", x.many(1), 2);
        Due.fine("1 is WITHDRAWN by 3", x, x.force(1, 2), 0);
        Due.tells(x, 0, "b");
        x = Due.of("start s;put 1 a;put 2 b;go 1;prune 2;cut 0 1;");
        Due.due("HERE", x.many(1), 2);
        Due.fine("it took none of 1", x, x.leans(2, 1), 0);
        Due.fine("its GROUP", x, x.state(2, 5), 2);
        x = Due.of("put 0 a;put 1 b;name k;name l;go 0;");
        for (String name : new String[] {"k", "l"}) {
            Due.type(x, name);
            x.unname();
        }
        Due.fine("prune(1)", x, x.prune(1), 2);
        x.wait(3);
        Due.fine("put", x, Due.put(x, 0, "xyz"), 1);
        int[] want = {0, 0, 3, 0, 3, 1, 0, 1, 3, 0};
        for (int what = 0; what < want.length; what++) {
            Due.fine("state(1, " + what + ")", x, x.state(1, what), want[what]);
        }
        Due.refused("no child", x, x.child(1, 0), 5);
    }

    private static void refusedAbove120() {
        Due.says("(Refused, if the DOCUMENT would have more than 120 LETTERS.)");
        BranchedText x = filled("cut 0 1;", 39, 119);
        Due.fine("withdraw(1), to 120", x, x.withdraw(1), 9);
        Due.fine("LETTERS", x, x.many(3), 120);
        x = filled("cut 0 1;", 39, 120);
        Due.refused("withdraw(1), to 121", x, x.withdraw(1), 6);
        x = filled("cut 0 12;", 28, 109);
        Due.refused("withdraw(1), to 121", x, x.withdraw(1), 6);
        x = filled("put 0 z;withdraw 1;", 40, 119);
        Due.fine("restore(1), to 120", x, x.restore(1), 10);
        Due.fine("LETTERS", x, x.many(3), 120);
        x = filled("put 0 z;withdraw 1;", 40, 120);
        Due.refused("restore(1), to 121", x, x.restore(1), 6);
        x = filled("put 0 z;withdraw 1;", 40, 120);
        x.cut(0, 1);
        Due.fine("restore(1), to 120", x, x.restore(1), 11);
        Due.fine("LETTERS", x, x.many(3), 120);
    }

    /** A START of 40, some LINES that leave so many LETTERS, then PUTS behind all till there are so many. */
    private static BranchedText filled(String lines, int from, int to) {
        BranchedText x = Due.of("start " + FORTY + ";" + lines);
        Due.due("LETTERS behind " + lines, x.many(3), from);
        int many = from;
        while (many < to) {
            int size = Math.min(12, to - many);
            Due.put(x, many, TWELVE.substring(0, size));
            many += size;
        }
        Due.due("LETTERS", x.many(3), to);
        return x;
    }

    private static void carriedPut() {
        Due.says("A PUT: its word, right behind the LETTER behind which it came there: its PLACE is how many LETTERS one SEES up to "
            + "that one (it too) in the ROW of HERE; that LETTER must be in this ROW (if it came at the very beginning: PLACE 0).");
        BranchedText x = Due.of("start ab;put 0 x;go 0;cut 0 2;carry 1;");
        Due.tells(x, 0, "x");
        Due.fine("PLACE where nothing is seen", x, x.state(3, 3), 0);
        x = Due.of("start ab;cut 0 2;put 0 x;go 0;carry 2;");
        Due.tells(x, 0, "xab");
        Due.fine("it came where nothing was seen", x, x.state(3, 3), 0);
        x = Due.of("start ab;put 2 x;go 0;put 0 q;carry 1;");
        Due.tells(x, 0, "qabx");
        Due.fine("the last PLACE", x, x.state(3, 3), 3);
        x = Due.of("start ab;put 2 x;go 0;cut 1 1;carry 1;");
        Due.tells(x, 0, "ax");
        Due.fine("that LETTER went", x, x.state(3, 3), 1);
        x = Due.of("start ab;put 1 x;go 0;cut 0 1;carry 1;");
        Due.tells(x, 0, "xb");
        Due.fine("that LETTER went, none is seen ahead of it", x, x.state(3, 3), 0);
        x = Due.of("put 0 a;put 1 b;go 1;withdraw 1;carry 2;");
        Due.tells(x, 0, "b");
        Due.fine("who put it in is WITHDRAWN", x, x.state(4, 3), 0);
        x = Due.of("put 0 a;put 1 b;go 0;");
        Due.refused("that LETTER is not in this ROW", x, x.carry(2), 10);
        x = Due.of("put 0 a;put 1 b;go 0;put 0 a;");
        Due.refused("another a is", x, x.carry(2), 10);
        x = Due.of("put 0 " + TWELVE + ";put 12 b;go 1;carry 2;");
        Due.tells(x, 0, TWELVE + "b");
    }

    /** Where its LETTER is in the ROW but not seen, its PLACE tells where it comes: as of any PUT. */
    private static void carriedBehindWhatWent() {
        Due.says("at HERE, as a new ACT of the same kind");
        String[] before = {
            "start ab;put 1 x;go 0;cut 0 1;",
            "start abcd;put 3 xy;go 0;cut 1 2;",
            "start ab;put 1 uv;put 3 x;go 1;withdraw 1;",
            "start abc;put 2 x;go 0;cut 0 2;put 0 q;",
        };
        int[] carried = {1, 1, 2, 1};
        int[] place = {0, 1, 1, 1};
        for (int i = 0; i < before.length; i++) {
            BranchedText x = Due.of(before[i]);
            BranchedText y = Due.of(before[i]);
            int made = x.carry(carried[i]);
            Due.due("status() behind carry", x.status(), 0);
            Due.fine("its PLACE, " + before[i], x, x.state(made, 3), place[i]);
            Due.put(y, place[i], i == 1 ? "xy" : "x");
            Due.same("as put(" + place[i] + "), " + before[i], Picture.of(typedX(x)), Picture.of(typedX(y)));
        }
        BranchedText x = Due.of(before[0]);
        x.carry(1);
        Due.fine("ROW: it comes at the very beginning", x, x.row(0, 1), 3);
        Due.fine("ROW: ahead of the LETTER that went", x, x.row(1, 4), 2);
        x.withdraw(2);
        Due.tells(x, 0, "xab");
    }

    private static BranchedText typedX(BranchedText x) {
        Due.type(x, "x");
        return x;
    }

    private static void carriedCut() {
        Due.says("A CUT: those of the LETTERS that it took that one SEES at HERE; there must be some, side by side as one sees them.");
        BranchedText x = Due.of("start abc;cut 0 3;go 0;cut 0 1;cut 1 1;carry 1;");
        Due.tells(x, 0, "");
        Due.fine("one alone", x, x.state(4, 4), 1);
        Due.fine("its PLACE", x, x.state(4, 3), 0);
        Due.refused("none", x, x.carry(1), 10);
        x = Due.of("start abc;cut 0 3;go 0;put 1 x;");
        Due.refused("not side by side", x, x.carry(1), 10);
        x.withdraw(2);
        Due.fine("what one does not see is not between them", x, x.carry(1), 4);
        Due.tells(x, 0, "");
        x = Due.of("start abc;cut 0 3;go 0;cut 1 1;carry 1;");
        Due.fine("one that went between them", x, x.state(3, 4), 2);
        Due.tells(x, 0, "");
        x = Due.of("start " + TWELVE + "m;cut 0 12;go 0;put 0 q;carry 1;");
        Due.fine("12 of them", x, x.state(3, 4), 12);
        Due.fine("their PLACE", x, x.state(3, 3), 1);
        Due.tells(x, 0, "qm");
        x = Due.of("put 0 a;cut 0 1;go 0;put 0 a;");
        Due.refused("another a", x, x.carry(2), 10);
        x = Due.of("start abc;cut 2 1;go 0;put 3 q;carry 1;");
        Due.fine("their PLACE", x, x.state(3, 3), 2);
        Due.tells(x, 0, "abq");
    }

    private static void carriedOfAnotherLine() {
        Due.says("CARRIED is a PUT or a CUT that is not of the LINE of HERE: at HERE, as a new ACT of the same kind (with GROUP, as any).");
        BranchedText x = Due.of("put 0 a;put 1 b;withdraw 2;go 1;");
        Due.refused("HERE", x, x.carry(1), 7);
        Due.refused("the START", x, x.carry(0), 7);
        Due.refused("a WITHDRAWN", x, x.carry(3), 7);
        Due.fine("one below HERE", x, x.carry(2), 4);
        Due.fine("its GROUP", x, x.state(4, 5), 1);
        Due.fine("its ACT", x, x.state(4, 1), 0);
        x = Due.of("start ab;cut 0 1;wait 5;go 0;carry 1;");
        Due.fine("its ACT", x, x.state(2, 1), 1);
        Due.fine("its TIME", x, x.state(2, 2), 5);
        Due.fine("its PARENT", x, x.state(2, 0), 0);
        Due.fine("its GROUP", x, x.state(2, 5), 2);
    }

    private static void merged() {
        Due.says("MERGED is a STATE: of its LINE those that are not of the LINE of HERE, one by one from the START on, "
            + "those that are PUTS or CUTS and IN FORCE there, are CARRIED");
        BranchedText x = Due.of("put 0 a;withdraw 1;go 1;");
        Due.fine("none that is a PUT or a CUT", x, x.merge(2), 0);
        Due.fine("left out", x, x.merges(2, 1), 0);
        Due.fine("HERE", x, x.many(1), 1);
        x = Due.of("put 0 a;put 1 b;withdraw 1;go 0;");
        Due.fine("none that is IN FORCE", x, x.merge(3), 0);
        Due.fine("left out", x, x.merges(3, 1), 0);
        Due.fine("2 is IN FORCE at 2", x, x.merge(2), 2);
        Due.tells(x, 0, "ab");
        Due.fine("1 alone", x, x.merges(1, 0), 1);
        Due.refused("HERE", x, x.merge(5), 4);
        // one alone is not of the LINE of HERE
        x = Due.of("put 0 a;put 1 b;go 1;put 0 c;");
        Due.fine("merge(2)", x, x.merge(2), 1);
        Due.tells(x, 0, "cab");
    }

    private static void standFor() {
        Due.says("LETTERS that such a one put in stand for those that its CARRIED one put in (of a CUT, of a PUT behind them)");
        BranchedText x = Due.of("put 0 abc;put 3 d;cut 1 3;put 1 e;go 0;put 0 q;merge 4;");
        Due.tells(x, 0, "aeq");
        Due.tells(x, 1, "0<5<6<7<8<9");
        Due.fine("the CUT took as many", x, x.state(8, 4), 3);
        Due.fine("the CUT leans on those that stand for them", x, x.leans(8, 6), 1);
        Due.fine("and on the other one", x, x.leans(8, 7), 1);
        x = Due.of("put 0 a;put 1 b;put 2 c;cut 2 1;put 0 d;go 1;");
        Due.fine("those of the LINE of HERE stand for themselves", x, x.merge(5), 4);
        Due.tells(x, 0, "dab");
        Due.fine("b leans on a", x, x.leans(6, 1), 1);
        x = Due.of("put 0 a;put 1 b;go 0;");
        Due.fine("carry() alone stands for none", x, x.carry(1), 3);
        Due.refused("carry(2)", x, x.carry(2), 10);
    }

    private static void leftOut() {
        Due.says("one that can't be CARRIED (10, 3, 6) is left out.");
        BranchedText x = Due.of("start abc;cut 0 1;put 0 x;put 1 y;go 0;cut 0 1;");
        Due.fine("10: merge(3)", x, x.merge(3), 2);
        Due.tells(x, 0, "xybc");
        // 6: 12 are too many, what leans on them is 10, 1 is not too many
        x = Due.of("start " + FORTY + ";put 0 " + TWELVE + ";put 12 z;put 0 y;put 0 w;go 0;");
        for (int i = 0; i < 6; i++) {
            Due.put(x, 40, TWELVE);
        }
        Due.put(x, 112, "abcdefg");
        Due.due("LETTERS", x.many(3), 119);
        Due.fine("merges(4, 0)", x, x.merges(4, 0), 1);
        Due.fine("merges(4, 1)", x, x.merges(4, 1), 3);
        Due.fine("merges(4, 2)", x, x.merges(4, 2), 120);
        Due.fine("6: merge(4)", x, x.merge(4), 1);
        Due.fine("LETTERS", x, x.many(3), 120);
        Due.fine("y came", x, x.letter(x.many(1), 0), 24);
        leftOutWhenFull();
    }

    private static void leftOutWhenFull() {
        BranchedText x = Due.of("put 0 a;put 1 b;put 2 c;go 0;");
        Due.type(x, "z");
        for (int i = 4; i < 46; i++) {
            x.put(0);
        }
        Due.fine("STATES", x, x.many(0), 46);
        Due.fine("merges(3, 0)", x, x.merges(3, 0), 2);
        Due.fine("merges(3, 1)", x, x.merges(3, 1), 1);
        Due.fine("merges(3, 2)", x, x.merges(3, 2), 44);
        Due.fine("STATES", x, x.many(0), 46);
        Due.fine("3: merge(3)", x, x.merge(3), 2);
        Due.fine("STATES", x, x.many(0), 48);
        Due.fine("merge(3) again", x, x.merge(3), 0);
        Due.fine("HERE", x, x.many(1), 47);
        Due.fine("VISITS", x, x.many(9), 48);
    }

    private static void pruned() {
        Due.says("PRUNED: at most so many STATES are to be left: as long as there are more: of STATES without children that are neither "
            + "HERE, nor have a NAME, nor are the START, the one whose last VISIT is longest ago goes; if there is none, it ends.");
        BranchedText x = Due.of("put 0 a;put 1 b;");
        Due.fine("HERE alone has no children", x, x.prune(1), 0);
        Due.refused("first()", x, x.first(), 5);
        x.go(1);
        Due.name(x, "k");
        Due.fine("2 goes, 1 is HERE", x, x.prune(1), 1);
        x.go(0);
        Due.fine("1 has a NAME", x, x.prune(1), 0);
        x.unname();
        Due.fine("as many are left as are to be", x, x.prune(2), 0);
        Due.fine("it has none any more", x, x.prune(1), 1);
        Due.fine("the START stays", x, x.many(0), 1);
        Due.fine("the START stays", x, x.prune(1), 0);
        // the last VISIT, not the first one, not the number
        x = Due.of("put 0 a;go 0;put 0 b;go 0;put 0 c;go 1;go 0;");
        Due.fine("2 was visited longest ago", x, x.first(), 2);
        x.go(2);
        x.go(0);
        Due.fine("now it is 3", x, x.first(), 3);
        Due.fine("prune(3)", x, x.prune(3), 1);
        Due.refused("3 went", x, x.state(3, 0), 2);
        Due.fine("then 1", x, x.first(), 1);
        // a STATE that was visited longest ago, and has a child
        x = Due.of("put 0 a;wait 9;put 1 b;go 0;put 0 c;go 0;");
        Due.fine("first(): 2, ahead of its PARENT", x, x.first(), 2);
        Due.fine("prune(3)", x, x.prune(3), 1);
        Due.fine("then its PARENT", x, x.first(), 1);
    }

    private static void between() {
        Due.says("BETWEEN two STATES: a LETTER is one and the same, if the same STATE put it in, as the same of its letters. "
            + "KEPT: those that one SEES in both; LOST: in the first alone; CAME: in the second alone.");
        BranchedText x = Due.of("put 0 aa;cut 0 1;go 1;cut 1 1;go 0;put 0 aa;");
        between(x, 0, 0, 0, 0, 0, -1);
        between(x, 1, 1, 2, 0, 0, -1);
        between(x, 0, 1, 0, 0, 2, 0);
        between(x, 1, 0, 0, 2, 0, 0);
        // each one a of two
        between(x, 2, 3, 0, 1, 1, -1);
        between(x, 1, 2, 1, 1, 0, 1);
        // the same letters of another STATE
        between(x, 1, 4, 0, 2, 2, -1);
        x = filled("", 40, 120);
        int last = x.many(1);
        between(x, last, last, 120, 0, 0, -1);
        between(x, 0, last, 40, 0, 80, 40);
        x.cut(119, 1);
        Due.put(x, 119, "z");
        between(x, last, last + 2, 119, 1, 1, 119);
    }

    private static void between(BranchedText x, int state, int other, int... want) {
        for (int what = 0; what < 4; what++) {
            Due.fine("between(" + state + ", " + other + ", " + what + ")", x, x.between(state, other, what), want[what]);
        }
    }

    private static void least() {
        Due.says("LEAST between two DOCUMENTS: the fewest LETTERS that must go and come (one by one, the others in their order) "
            + "for the first to be the second.");
        BranchedText x = Due.of("put 0 abcd;go 0;put 0 dcba;go 0;put 0 xyz;go 0;put 0 bd;go 0;put 0 abcd;");
        Due.fine("both empty", x, x.least(0, 0), 0);
        Due.fine("all come", x, x.least(0, 1), 4);
        Due.fine("all go", x, x.least(1, 0), 4);
        Due.fine("one stays", x, x.least(1, 2), 6);
        Due.fine("none stays", x, x.least(1, 3), 7);
        Due.fine("some go", x, x.least(1, 4), 2);
        Due.fine("some come", x, x.least(4, 1), 2);
        Due.fine("the same letters of another STATE", x, x.least(1, 5), 0);
        x = filled("", 40, 120);
        int last = x.many(1);
        Due.fine("120 come and stay", x, x.least(last, last), 0);
        Due.fine("80 go", x, x.least(last, 0), 80);
        x.cut(0, 1);
        Due.put(x, 119, "z");
        Due.fine("the first and the last one", x, x.least(last, last + 2), 2);
        x = Due.of("");
        for (int i = 0; i < 20; i++) {
            if (i == 10) {
                x.go(0);
            }
            Due.put(x, 0, i < 10 ? "aaaaaaaaaaaa" : "bbbbbbbbbbbb");
        }
        Due.fine("none of 120 stays", x, x.least(10, 20), 240);
    }

    private static void log() {
        Due.says("The LOG: the latest 40 VISITS, of each the STATE, NOW as it was.");
        BranchedText x = Due.of("put 0 a;");
        for (int i = 2; i <= 40; i++) {
            x.wait(1);
            x.go(i % 2 == 0 ? 0 : 1);
        }
        Due.fine("VISITS", x, x.many(9), 40);
        Due.fine("the latest one", x, x.visit(0, 0), 0);
        Due.fine("NOW then", x, x.visit(0, 1), 39);
        Due.fine("the 40th one", x, x.visit(39, 0), 1);
        Due.fine("NOW then", x, x.visit(39, 1), 0);
        Due.refused("a 41st one", x, x.visit(40, 0), 1);
        x.wait(100);
        x.go(1);
        Due.fine("VISITS", x, x.many(9), 41);
        Due.fine("the latest one", x, x.visit(0, 0), 1);
        Due.fine("NOW then", x, x.visit(0, 1), 139);
        Due.fine("the 40th one", x, x.visit(39, 0), 0);
        Due.fine("NOW then", x, x.visit(39, 1), 1);
        for (int i = 0; i < 100; i++) {
            x.wait(1);
            x.go(i % 2);
        }
        for (int i = 0; i < 40; i++) {
            Due.fine("visit(" + i + ", 0)", x, x.visit(i, 0), 1 - i % 2);
            Due.fine("visit(" + i + ", 1)", x, x.visit(i, 1), 239 - i);
        }
    }

    private static void out() {
        Due.says("OUT, what 0: the DOCUMENT of HERE; 1: STATES of the LINE of HERE, from the START on, as numbers, < between them (0<1<4); "
            + "2: NAMES as they came (one told anew stays in its place), each with = and its STATE, blanks between.");
        BranchedText x = new BranchedText();
        Due.tells(x, 0, "");
        Due.tells(x, 1, "0");
        Due.tells(x, 2, "");
        Due.put(x, 0, "az");
        Due.name(x, "z");
        Due.tells(x, 0, "az");
        Due.tells(x, 1, "0<1");
        Due.tells(x, 2, "z=1");
        StringBuilder line = new StringBuilder("0<1");
        for (int i = 2; i < 48; i++) {
            Due.put(x, 0, "a");
            line.append('<').append(i);
        }
        Due.tells(x, 1, line.toString());
        StringBuilder names = new StringBuilder("z=1");
        for (int i = 0; i < 11; i++) {
            Due.name(x, "abcde" + (char) ('a' + i));
            names.append(" abcde").append((char) ('a' + i)).append("=47");
        }
        Due.tells(x, 2, names.toString());
        x.go(9);
        Due.name(x, "z");
        Due.name(x, "abcdef");
        Due.tells(x, 2, names.toString().replace("z=1", "z=9").replace("f=47", "f=9"));
        Due.name(x, "z");
        x.unname();
        Due.tells(x, 2, names.toString().replace("z=1 ", "").replace("f=47", "f=9"));
        x.go(10);
        Due.name(x, "z");
        Due.tells(x, 2, names.toString().replace("z=1 ", "").replace("f=47", "f=9") + " z=10");
    }

    // ==== 4. and ==== 5.

    private static BranchedText some() {
        BranchedText x = Due.of(SOME);
        x.tell(1);
        Due.type(x, "xy");
        x.feed(0x77616974, 0x20393b20, 0x20202020, 0x20202020, 0x20202020);
        return x;
    }

    /** What comes behind is as it would be without the call. */
    private static void changesNothing(String name, BranchedText x) {
        BranchedText y = some();
        Due.same("what there is behind " + name, Picture.of(x), Picture.of(y));
        Due.due("fault(0) behind " + name, x.fault(0), 0);
        Due.due("fault(1) behind " + name, x.fault(1), -1);
        for (int i = 0; i < 7; i++) {
            Due.due("act " + i + " behind " + name, act(x, i), act(y, i));
        }
        Due.same("what there is behind that", Picture.of(x), Picture.of(y));
        Due.due("the tape behind " + name, x.feed(0, 0, 0, 0, 0), 40);
        Due.due("load(8) behind " + name, x.load(8), 1);
        Due.due("NOW", x.many(2), 9);
    }

    private static int act(BranchedText x, int i) {
        switch (i) {
            case 0: return x.put(1);
            case 1: return x.undo();
            case 2: return x.redo();
            case 3: return x.merge(3);
            case 4: return x.withdraw(1);
            case 5: return x.tell(2);
            default: return x.wait(1);
        }
    }

    private static void refused(String name, int why, Call call) {
        BranchedText x = some();
        Due.refused(name, x, call.on(x), why);
        changesNothing(name, x);
    }

    private static void onPaper(String name, int want, Call call) {
        BranchedText x = some();
        Due.fine(name, x, call.on(x), want);
        changesNothing(name, x);
    }

    private static void onPaperAllStays() {
        Due.says("ON PAPER all stays as it is.");
        onPaper("common", 2, x -> x.common(5, 4));
        onPaper("way", 2, x -> x.way(5, 4, 1));
        onPaper("between", 6, x -> x.between(5, 2, 0));
        onPaper("between", 0, x -> x.between(5, 2, 3));
        onPaper("least", 1, x -> x.least(5, 2));
        onPaper("merges", 1, x -> x.merges(3, 0));
        onPaper("merges", 0, x -> x.merges(3, 1));
        onPaper("merges", 6, x -> x.merges(3, 2));
        onPaper("merges, none is CARRIED", 0, x -> x.merges(4, 1));
        onPaper("tell(1), as it was told", 7, x -> x.tell(1));
        onPaper("out", '<', x -> x.out(1));
        onPaper("leaning", 2, x -> x.leaning(1, 0));
        onPaper("leaning", 4, x -> x.leaning(1, 3));
        onPaper("find", 1, x -> x.find(0));
        onPaper("find", 4, x -> x.find(1));
        onPaper("find", 2, x -> x.find(2));
        // 4 has a NAME, 3 has a child, 5 is HERE: none goes
        refused("first", 5, BranchedText::first);
        refused("twin", 5, x -> x.twin(5));
        onPaper("back", 2, x -> x.back(1));
        onPaper("back", 0, x -> x.back(2));
        // the LOG, too, when it is full
        BranchedText y = Due.of("put 0 a;go 0;put 0 b;put 1 c;put 2 d;");
        for (int i = 0; i < 45; i++) {
            y.wait(1);
            y.go(i % 2);
        }
        String ahead = Picture.of(y);
        Due.fine("merges(4, 0)", y, y.merges(4, 0), 3);
        Due.same("what there is behind merges(4, 0)", Picture.of(y), ahead);
        // tell() alone changes OUT
        BranchedText x = some();
        x.tell(0);
        x.tell(1);
        changesNothing("tell(0), tell(1)", x);
    }

    private static void refusedChangesNothing() {
        Due.says("With another STATUS than 0 a call gives NONE, and changes nothing else");
        refused("load(-1)", 1, x -> x.load(-1));
        refused("load(21)", 1, x -> x.load(21));
        refused("many(10)", 1, x -> x.many(10));
        refused("letter(0, -1)", 1, x -> x.letter(0, -1));
        refused("letter(6, 0)", 2, x -> x.letter(6, 0));
        refused("letter(0, 3)", 5, x -> x.letter(0, 3));
        refused("state(0, 10)", 1, x -> x.state(0, 10));
        refused("state(6, 0)", 2, x -> x.state(6, 0));
        refused("child(0, -1)", 1, x -> x.child(0, -1));
        refused("child(6, 0)", 2, x -> x.child(6, 0));
        refused("child(0, 1)", 5, x -> x.child(0, 1));
        refused("force(6, 0)", 2, x -> x.force(6, 0));
        refused("force(3, 5)", 5, x -> x.force(3, 5));
        refused("blame(-1, 0)", 1, x -> x.blame(-1, 0));
        refused("blame(7, 0)", 5, x -> x.blame(7, 0));
        refused("row(0, 5)", 1, x -> x.row(0, 5));
        refused("row(7, 0)", 5, x -> x.row(7, 0));
        refused("visit(40, 0)", 1, x -> x.visit(40, 0));
        refused("visit(6, 0)", 5, x -> x.visit(6, 0));
        refused("named()", 5, BranchedText::named);
        refused("leans(6, 0)", 2, x -> x.leans(6, 0));
        refused("leans(5, 3)", 5, x -> x.leans(5, 3));
        refused("put(8)", 1, x -> x.put(8));
        refused("put(-1)", 1, x -> x.put(-1));
        refused("cut(0, 0)", 1, x -> x.cut(0, 0));
        refused("cut(0, 13)", 1, x -> x.cut(0, 13));
        refused("cut(7, 1)", 5, x -> x.cut(7, 1));
        refused("wait(1000)", 1, x -> x.wait(1000));
        refused("redo()", 5, BranchedText::redo);
        refused("go(6)", 2, x -> x.go(6));
        refused("go(5)", 4, x -> x.go(5));
        refused("unname()", 5, BranchedText::unname);
        refused("withdraw(6)", 2, x -> x.withdraw(6));
        refused("withdraw(3)", 7, x -> x.withdraw(3));
        refused("restore(6)", 2, x -> x.restore(6));
        refused("restore(1)", 4, x -> x.restore(1));
        refused("restore(4)", 7, x -> x.restore(4));
        refused("carry(6)", 2, x -> x.carry(6));
        refused("carry(1)", 7, x -> x.carry(1));
        refused("merge(6)", 2, x -> x.merge(6));
        refused("merge(1)", 4, x -> x.merge(1));
        refused("prune(0)", 1, x -> x.prune(0));
        refused("prune(49)", 1, x -> x.prune(49));
        refusedOnPaper();
        refusedAlreadyOrTooMany();
    }

    private static void refusedOnPaper() {
        refused("common(6, 0)", 2, x -> x.common(6, 0));
        refused("way(0, 0, -1)", 1, x -> x.way(0, 0, -1));
        refused("way(0, 6, 0)", 2, x -> x.way(0, 6, 0));
        refused("way(0, 0, 1)", 5, x -> x.way(0, 0, 1));
        refused("between(0, 0, 4)", 1, x -> x.between(0, 0, 4));
        refused("between(6, 0, 0)", 2, x -> x.between(6, 0, 0));
        refused("least(6, 0)", 2, x -> x.least(6, 0));
        refused("merges(3, 3)", 1, x -> x.merges(3, 3));
        refused("merges(6, 0)", 2, x -> x.merges(6, 0));
        refused("merges(5, 0)", 4, x -> x.merges(5, 0));
        refused("tell(3)", 1, x -> x.tell(3));
        refused("out(-1)", 1, x -> x.out(-1));
        refused("out(7)", 5, x -> x.out(7));
        refused("leaning(1, 4)", 1, x -> x.leaning(1, 4));
        refused("leaning(6, 0)", 2, x -> x.leaning(6, 0));
        refused("leaning(3, 0)", 7, x -> x.leaning(3, 0));
        refused("find(3)", 1, x -> x.find(3));
        refused("twin(6)", 2, x -> x.twin(6));
        refused("back(0)", 1, x -> x.back(0));
        refused("back(3)", 5, x -> x.back(3));
    }

    private static void refusedAlreadyOrTooMany() {
        // the word typed is asked, and stays
        BranchedText x = some();
        Due.type(x, "l");
        Due.refused("name()", x, x.name(), 4);
        Due.refused("name()", x, x.name(), 4);
        Due.type(x, "xy");
        changesNothing("name() told twice", x);
        x = some();
        x.go(0);
        Due.refused("undo()", x, x.undo(), 5);
        Due.fine("HERE", x, x.many(1), 0);
        Due.fine("VISITS", x, x.many(9), 7);
        // 3, 6 and 10: STATES, HERE, VISITS and LETTERS are as they were
        x = filled("put 0 a;go 0;put 0 bb;put 1 c;go 1;", 41, 119);
        stays("6: carry(2)", x, 6, z -> z.carry(2));
        stays("10: carry(3)", x, 10, z -> z.carry(3));
        stays("6: put(0)", x, 6, z -> Due.put(z, 0, "ab"));
        for (int i = x.many(0); i < 48; i++) {
            x.cut(0, 1);
        }
        stays("3: carry(2)", x, 3, z -> z.carry(2));
        stays("3: cut(0, 1)", x, 3, z -> z.cut(0, 1));
        stays("3: put(0)", x, 3, z -> Due.put(z, 0, "a"));
    }

    private static void stays(String name, BranchedText x, int why, Call call) {
        int[] ahead = new int[10];
        for (int what = 0; what < 10; what++) {
            ahead[what] = x.many(what);
        }
        Due.refused(name, x, call.on(x), why);
        for (int what = 0; what < 10; what++) {
            Due.fine("many(" + what + ") behind " + name, x, x.many(what), ahead[what]);
        }
        Due.fine("visit(0, 0) behind " + name, x, x.visit(0, 0), ahead[1]);
        Due.refused("child of HERE behind " + name, x, x.child(ahead[1], 0), 5);
    }

    private static void loadWithAFault() {
        Due.says("(load() with 9: but the tape and what fault() tells; all that is asked of the word of type() leaves it)");
        String[] texts = {"start zz; put 0 q; put 9 q;", "start zz; join gap<9; wait 3; name k; #", "prune 1; undo;"};
        for (String text : texts) {
            BranchedText x = some();
            BranchedText y = some();
            x.load(0);
            y.load(0);
            Due.load(x, SOME);
            Due.load(y, SOME);
            Due.refused("load of " + text, x, Due.load(x, text), 9);
            Due.refused("the tape is empty", x, x.load(1), 1);
            Due.due("fault(0) is told", x.fault(0) > 0 ? 1 : 0, 1);
            Due.same("what there is behind load of " + text, Picture.of(x), Picture.of(y));
            for (int i = 0; i < 7; i++) {
                Due.due("act " + i + " behind load of " + text, act(x, i), act(y, i));
            }
            Due.same("what there is behind that", Picture.of(x), Picture.of(y));
        }
        // the word of type(), behind all that is asked of it
        BranchedText x = new BranchedText();
        Due.type(x, "ab");
        x.named();
        x.put(0);
        x.name();
        x.find(0);
        x.unname();
        x.put(9);
        Due.load(x, "put 0 zz; name zzz;");
        Due.load(x, "#");
        Due.fine("put(0)", x, x.put(0), 2);
        Due.tells(x, 0, "abzz");
    }

    private static void noneOfTheirOwn() {
        Due.says("status(), feed(), fault(), type() have none.");
        BranchedText x = new BranchedText();
        x.undo();
        x.status();
        Due.due("status()", x.status(), 5);
        x.feed(0, 0, 0, 0, 0);
        x.fault(0);
        x.fault(-1);
        x.type(1, 0);
        x.type(27, 0);
        for (int i = 0; i < 36; i++) {
            x.feed(0, 0, 0, 0, 0);
        }
        Due.due("status()", x.status(), 5);
        x.many(0);
        x.type(27, 0);
        Due.due("feed() beyond 700", x.feed(0, 0, 0, 0, 0), -1);
        Due.due("status()", x.status(), 0);
    }

    private static void manyCalls() {
        Due.says("An object is used for at most 512 calls after it has been made");
        BranchedText x = new BranchedText();
        for (int i = 0; i < 508; i++) {
            x.wait(999);
        }
        Due.due("many(2)", x.many(2), 508 * 999);
        Due.due("type", x.type(1, 0), 1);
        Due.due("put", x.put(0), 1);
        Due.due("the 512th call", x.state(1, 2), 508 * 999);
        x = new BranchedText();
        x.type(1, 0);
        x.put(0);
        for (int i = 0; i < 508; i++) {
            x.go(i % 2);
        }
        Due.due("VISITS", x.many(9), 509);
        Due.due("the 512th call", x.visit(39, 0), 0);
    }

    public static void main(String[] args) {
        aNewState();
        joinsWithoutTest();
        gap();
        size();
        kindSameLong();
        near();
        withdrawnBeginsOne();
        numbersAsTheyAre();
        visits();
        latest();
        undo();
        redo();
        way();
        names();
        leansOn();
        leaning();
        withdraw();
        restore();
        numbersUsedAgain();
        refusedAbove120();
        carriedPut();
        carriedBehindWhatWent();
        carriedCut();
        carriedOfAnotherLine();
        merged();
        standFor();
        leftOut();
        pruned();
        between();
        least();
        log();
        out();
        onPaperAllStays();
        refusedChangesNothing();
        loadWithAFault();
        noneOfTheirOwn();
        manyCalls();
        Due.end("SectionsEdgesTest");
    }
}
