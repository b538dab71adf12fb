/** Each sentence of the promises that names an edge, with a test of its own: too small, too large, empty, full, refused. */
public final class PromisesEdgesTest {
    private static final int LEAST = Integer.MIN_VALUE;
    private static final int MOST = Integer.MAX_VALUE;
    private static final String FORTY = "abcdefghijklmnopqrstuvwxyzabcdefghijklmn";
    private static final String TWELVE = "abcdefghijkl";
    private static final int[] NO_STATES = {3, 4, 47, 48, 49, 64, 256, -1, -48, LEAST, LEAST + 1, MOST};
    private static final int[] BELOW = {-1, -2, -40, -256, LEAST, LEAST + 1};

    /** A call with one number. */
    private interface Call {
        int on(BranchedText x, int n);
    }

    /** START abc, 1 a PUT, 2 WITHDRAWN; HERE is 2. */
    private static BranchedText three() {
        return Due.of("start abc; put 1 x; withdraw 1;");
    }

    /** Each of these numbers is refused so. */
    private static void all(String name, int why, int[] numbers, Call call) {
        BranchedText x = three();
        Due.type(x, "x");
        for (int n : numbers) {
            Due.refused(name + " of " + n, x, call.on(x, n), why);
        }
    }

    /** what is 0 to most, and no other number. */
    private static void whats(String name, int most, Call call) {
        all(name + ", what", 1, new int[] {most + 1, most + 2, -1, 256, LEAST, MOST}, call);
        BranchedText x = three();
        Due.type(x, "c");
        for (int what = 0; what <= most; what++) {
            call.on(x, what);
            Due.due("status() behind " + name + ", what " + what, x.status(), 0);
        }
    }

    private static void p01() {
        Due.says("The START without LETTERS; no TEST, no NAMES; NOW 0; an empty tape, no word typed; STATUS 0.");
        BranchedText other = Due.of("start abc;join gap<9;put 0 x;name k;wait 5;");
        Due.type(other, "x");
        BranchedText x = new BranchedText();
        Due.due("status()", x.status(), 0);
        int[] want = {1, 0, 0, 0, 0, 0, 1, 0, 0, 0};
        for (int what = 0; what < want.length; what++) {
            Due.fine("many(" + what + ")", x, x.many(what), want[what]);
        }
        Due.refused("letter(0, 0)", x, x.letter(0, 0), 5);
        Due.refused("load(1), the tape is empty", x, x.load(1), 1);
        Due.refused("put(0), no word", x, x.put(0), 1);
        Due.refused("name(), no word", x, x.name(), 1);
        Due.refused("unname(), no word", x, x.unname(), 1);
        Due.refused("named(), no word", x, x.named(), 1);
        Due.refused("find(0), no word", x, x.find(0), 1);
        Due.fine("tell(2)", x, x.tell(2), 0);
        Due.due("feed", x.feed(0, 0, 0, 0, 0), 20);
        Due.put(x, 0, "a");
        Due.put(x, 0, "b");
        Due.fine("without a TEST: not NEAR", x, x.state(2, 5), 2);
        Due.put(x, 1, "c");
        Due.fine("without a TEST: NEAR", x, x.state(3, 5), 2);
        Due.fine("the other object is as it was", other, other.many(3), 4);
        Due.fine("its word, too", other, other.put(0), 2);
    }

    private static void p02() {
        Due.says("STATUS of the latest call that has one.");
        BranchedText x = new BranchedText();
        x.undo();
        Due.due("status()", x.status(), 5);
        Due.due("status() has none", x.status(), 5);
        x.go(7);
        Due.due("status()", x.status(), 2);
        x.go(0);
        Due.due("status()", x.status(), 4);
        x.load(1);
        Due.due("status()", x.status(), 1);
        x.load(0);
        Due.due("status()", x.status(), 0);
        // an answer of NONE with STATUS 0
        x.undo();
        Due.fine("state(0, 0)", x, x.state(0, 0), -1);
    }

    private static void p03() {
        Due.says("Twenty bytes come behind those on the tape, the highest of each int first: how many it has; "
            + "NONE if there would be more than 700.");
        BranchedText x = new BranchedText();
        for (int i = 1; i <= 34; i++) {
            Due.due("feed", x.feed(0x20202020, 0x0a0a0a0a, 0x200a200a, 0x0a200a20, 0x20202020), 20 * i);
        }
        Due.due("feed to 700", x.feed(0x77616974, 0x20313233, 0x3b707574, 0x20302061, 0x627a3bff), 700);
        for (int i = 0; i < 3; i++) {
            Due.due("feed beyond", x.feed(0x23232323, 0x23232323, 0x23232323, 0x23232323, 0x23232323), -1);
        }
        // byte 699 is 255; the one ahead of it is the last ; of "wait 123;put 0 abz;"
        Due.fine("load(699)", x, x.load(699), 2);
        Due.due("NOW", x.many(2), 123);
        Due.tells(x, 0, "abz");
        Due.due("feed on the empty tape", x.feed(-1, LEAST, MOST, 0, 1), 20);
        Due.refused("load(1)", x, x.load(1), 9);
        Due.due("fault(0) of byte 255", x.fault(0), 1);
    }

    private static void p04() {
        Due.says("The first n bytes of the tape (which is empty then) are the TEXT: how many STATES "
            + "(1: n below 0, above what the tape has; 9).");
        BranchedText x = new BranchedText();
        Due.feed(x, "put 0 a;put 1 b;#");
        for (int n : BELOW) {
            Due.refused("load(" + n + ")", x, x.load(n), 1);
        }
        for (int n : new int[] {21, 22, 40, 700, 701, MOST}) {
            Due.refused("load(" + n + ")", x, x.load(n), 1);
        }
        Due.fine("load(8), the others go", x, x.load(8), 2);
        Due.refused("load(1)", x, x.load(1), 1);
        Due.feed(x, "put 0 a;put 1 b;    ");
        Due.fine("load(20), all of them", x, x.load(20), 3);
        Due.refused("load(1)", x, x.load(1), 1);
        Due.feed(x, "put 0 a;");
        Due.fine("load(0) of 20", x, x.load(0), 1);
        Due.refused("load(1), they went too", x, x.load(1), 1);
        Due.feed(x, "put 0 a;undo;prune 1;");
        Due.fine("as many as there are left", x, x.load(21), 1);
        Due.feed(x, "put 0 a;");
        Due.refused("load(7), the ; is behind it", x, x.load(7), 9);
        Due.due("fault(1)", x.fault(1), 7);
        Due.refused("load(1), the tape is empty with 9, too", x, x.load(1), 1);
        Due.refused("load(20)", x, x.load(20), 1);
        Due.due("feed", x.feed(0, 0, 0, 0, 0), 20);
    }

    private static void p05() {
        Due.says("Of the latest load() with STATUS 0 or 9, what 0: the FAULT (0 without one), 1: its place (NONE without). "
            + "NONE for others, and ahead of any.");
        BranchedText x = new BranchedText();
        for (int what : new int[] {0, 1, 2, -1, LEAST, MOST}) {
            Due.due("fault(" + what + ") ahead of any", x.fault(what), -1);
        }
        x.load(-1);
        Due.due("fault(0), STATUS 1", x.fault(0), -1);
        x.load(0);
        Due.due("fault(0), STATUS 0", x.fault(0), 0);
        Due.due("fault(1), STATUS 0", x.fault(1), -1);
        Due.load(x, "  undo;");
        Due.due("fault(0), STATUS 9", x.fault(0), 7);
        Due.due("fault(1), STATUS 9", x.fault(1), 6);
        x.load(1);
        Due.due("fault(0), STATUS 1 behind that", x.fault(0), 7);
        Due.due("fault(1), STATUS 1 behind that", x.fault(1), 6);
        for (int what : new int[] {2, -1, 9, LEAST, MOST}) {
            Due.due("fault(" + what + ")", x.fault(what), -1);
        }
        Due.load(x, "#");
        Due.due("fault(1) at 0", x.fault(1), 0);
        x.load(0);
        Due.due("fault(0)", x.fault(0), 0);
        Due.due("fault(1)", x.fault(1), -1);
    }

    private static int five(int... letters) {
        int all = 0;
        for (int i = 0; i < letters.length; i++) {
            all |= letters[i] << 5 * i;
        }
        return all;
    }

    private static void p06() {
        Due.says("The word typed is another one: its letters, 1 to 26 (a .. z), five bits each, of a first, the lowest first, at most six of "
            + "each int, till one is 0: how many it has (at most 12; a letter above 26: NONE, and the word stays).");
        BranchedText x = new BranchedText();
        Due.due("no letter", x.type(0, 0), 0);
        Due.due("0 ahead of others", x.type(0, MOST), 0);
        Due.due("0 as the second", x.type(five(1, 0, 31, 31), -1), 1);
        Due.due("0 as the sixth", x.type(five(1, 2, 3, 4, 5, 0), five(6)), 5);
        Due.due("0 as the seventh", x.type(five(1, 2, 3, 4, 5, 26), five(0, 31)), 6);
        x.put(0);
        Due.tells(x, 0, "abcdez");
        Due.due("0 as the twelfth", x.type(five(1, 1, 1, 1, 1, 1), five(2, 2, 2, 2, 2, 0)), 11);
        Due.due("all of 12", x.type(five(1, 1, 1, 1, 1, 1), five(2, 2, 2, 2, 2, 26)), 12);
        x.put(0);
        Due.tells(x, 0, "aaaaaabbbbbzabcdez");
        for (int over = 27; over < 32; over++) {
            Due.due("the first above 26", x.type(over, 0), -1);
            Due.due("the sixth above 26", x.type(five(1, 1, 1, 1, 1, over), 0), -1);
            Due.due("the twelfth above 26", x.type(five(1, 1, 1, 1, 1, 1), five(1, 1, 1, 1, 1, over)), -1);
        }
        Due.due("all bits", x.type(-1, -1), -1);
        Due.fine("the word stays", x, x.put(0), 3);
        Due.due("LETTERS", x.many(3), 30);
        Due.due("the two highest bits are of no letter", x.type(five(1, 1, 1, 1, 1, 1) | 3 << 30, 3 << 30 | 3), 7);
        x.put(0);
        Due.fine("the seventh letter", x, x.letter(4, 6), 2);
        Due.due("the lowest first", x.type(five(1, 26), 0), 2);
        x.put(0);
        Due.fine("the first letter", x, x.letter(5, 0), 0);
        Due.fine("the second letter", x, x.letter(5, 1), 25);
        Due.due("an empty word is another one, too", x.type(0, 0), 0);
        Due.refused("put", x, x.put(0), 1);
    }

    private static void p07() {
        Due.says("What 0: STATES, 1: HERE, 2: NOW, 3: LETTERS of the DOCUMENT, 4: of its ROW, 5: NAMES, 6: leaves (STATES without children), "
            + "7: GROUPS of the LINE of HERE, 8: ACTS of it that are not IN FORCE, 9: how many VISITS there were (since load(), 0 at first) (1).");
        whats("many", 9, BranchedText::many);
        BranchedText x = new BranchedText();
        Due.fine("leaves: the START", x, x.many(6), 1);
        Due.fine("GROUPS: none", x, x.many(7), 0);
        Due.put(x, 0, "a");
        Due.fine("leaves: 1 alone", x, x.many(6), 1);
        Due.fine("GROUPS", x, x.many(7), 1);
        x.go(0);
        Due.fine("GROUPS of the START", x, x.many(7), 0);
        Due.put(x, 0, "b");
        Due.fine("leaves", x, x.many(6), 2);
        x.withdraw(2);
        Due.fine("GROUPS", x, x.many(7), 2);
        Due.fine("not IN FORCE", x, x.many(8), 1);
        x.go(2);
        Due.fine("not IN FORCE of this LINE", x, x.many(8), 0);
        x.go(0);
        x.prune(1);
        Due.fine("leaves: the START again", x, x.many(6), 1);
        Due.fine("STATES", x, x.many(0), 1);
        Due.fine("VISITS of those that went stay counted", x, x.many(9), 6);
        x.load(0);
        Due.fine("VISITS since load()", x, x.many(9), 0);
        Due.load(x, "start q;put 0 a;put 1 b;undo;redo;wait 3;go 1;");
        Due.fine("VISITS by LINES, each of which is as the call", x, x.many(9), 5);
        x.undo();
        Due.fine("and on from there", x, x.many(9), 6);
        Due.load(x, "put 0 a;undo;undo;");
        Due.fine("VISITS since the load() that had no FAULT", x, x.many(9), 6);
        x.load(0);
        // the most leaves that there can be
        Due.type(x, "a");
        for (int i = 1; i < 48; i++) {
            x.go(0);
            x.put(0);
        }
        Due.fine("leaves", x, x.many(6), 47);
    }

    private static void p08() {
        Due.says("The LETTER at a PLACE of the DOCUMENT of a STATE (0 to 25) (1: PLACE below 0; 2; 5).");
        all("letter, a PLACE", 1, BELOW, (x, n) -> x.letter(0, n));
        all("letter, a PLACE of no STATE", 1, BELOW, (x, n) -> x.letter(48, n));
        all("letter, a STATE", 2, NO_STATES, (x, n) -> x.letter(n, 0));
        all("letter, a STATE and a PLACE too large", 2, NO_STATES, (x, n) -> x.letter(n, MOST));
        all("letter, a PLACE", 5, new int[] {3, 4, 119, 120, 121, MOST}, (x, n) -> x.letter(0, n));
        all("letter, a PLACE", 5, new int[] {4, 5, MOST}, (x, n) -> x.letter(1, n));
        BranchedText x = Due.of("start az;");
        Due.fine("a", x, x.letter(0, 0), 0);
        Due.fine("z, the last one", x, x.letter(0, 1), 25);
        x.cut(0, 2);
        Due.refused("of an empty DOCUMENT", x, x.letter(1, 0), 5);
    }

    private static void p09() {
        Due.says("Of a STATE, what 0: PARENT (NONE), 1: ACT (NONE of the START), 2: TIME, 3: PLACE (of 2, 3, of the START NONE), "
            + "4: how many letters it put in, cut (of 2, 3: how many STATES it names; of the START how many it has), 5: the first STATE of its GROUP "
            + "(of the START 0), 6: how many children, 7: DEPTH (ACTS of its LINE), 8: LETTERS of its DOCUMENT, 9: how many NAMES it has (1; 2); "
            + "STATUS tells NONE from -1.");
        whats("state", 9, (x, n) -> x.state(2, n));
        all("state, what of no STATE", 1, new int[] {10, -1, LEAST, MOST}, (x, n) -> x.state(48, n));
        all("state, a STATE", 2, NO_STATES, (x, n) -> x.state(n, 0));
        all("state, a STATE", 2, NO_STATES, (x, n) -> x.state(n, 9));
        // the START alone, then with 47 children or 47 below one another
        state(new BranchedText(), 0, -1, -1, 0, -1, 0, 0, 0, 0, 0, 0);
        state(Due.of("start " + FORTY + ";wait 9;"), 0, -1, -1, 0, -1, 40, 0, 0, 0, 40, 0);
        state(Due.of("start a;cut 0 1;withdraw 1;restore 1;"), 3, 2, 3, 0, -1, 1, 3, 0, 3, 0, 0);
        BranchedText x = new BranchedText();
        Due.type(x, "a");
        for (int i = 1; i < 48; i++) {
            x.go(0);
            x.put(0);
        }
        state(x, 0, -1, -1, 0, -1, 0, 0, 47, 0, 0, 0);
        state(x, 47, 0, 0, 0, 0, 1, 47, 0, 1, 1, 0);
        x = Due.of("join gap=0;");
        Due.type(x, "a");
        for (int i = 1; i < 48; i++) {
            x.put(0);
        }
        for (int i = 0; i < 12; i++) {
            Due.name(x, "n" + (char) ('a' + i));
        }
        state(x, 47, 46, 0, 0, 0, 1, 1, 0, 47, 47, 12);
        // a child that went counts no longer
        x = Due.of("put 0 a;go 0;prune 1;");
        state(x, 0, -1, -1, 0, -1, 0, 0, 0, 0, 0, 0);
    }

    private static void state(BranchedText x, int state, int... want) {
        for (int what = 0; what < want.length; what++) {
            Due.fine("state(" + state + ", " + what + ")", x, x.state(state, what), want[what]);
        }
    }

    private static void p10() {
        Due.says("The i-th child of a STATE, the LATEST first, then the LATEST of the others, and so on (1: i below 0; 2; 5).");
        all("child, i", 1, BELOW, (x, n) -> x.child(0, n));
        all("child, i of no STATE", 1, BELOW, (x, n) -> x.child(48, n));
        all("child, a STATE", 2, NO_STATES, (x, n) -> x.child(n, 0));
        all("child, a STATE and i too large", 2, NO_STATES, (x, n) -> x.child(n, MOST));
        all("child, i", 5, new int[] {1, 2, 47, 48, MOST}, (x, n) -> x.child(0, n));
        all("child, of a leaf", 5, new int[] {0, 1, MOST}, (x, n) -> x.child(2, n));
        BranchedText x = new BranchedText();
        Due.type(x, "a");
        for (int i = 1; i < 48; i++) {
            x.go(0);
            x.put(0);
        }
        for (int i = 0; i < 47; i++) {
            Due.fine("child(0, " + i + ")", x, x.child(0, i), 47 - i);
        }
        Due.refused("child(0, 47)", x, x.child(0, 47), 5);
        x.go(1);
        Due.fine("child(0, 0)", x, x.child(0, 0), 1);
        Due.fine("child(0, 46)", x, x.child(0, 46), 2);
    }

    private static void p11() {
        Due.says("1 if a STATE that is a PUT, a CUT of the LINE of another one is IN FORCE there, else 0 (2; 5: it is none such).");
        all("force, a STATE", 2, NO_STATES, (x, n) -> x.force(n, 0));
        all("force, another one", 2, NO_STATES, (x, n) -> x.force(1, n));
        all("force, both", 2, NO_STATES, (x, n) -> x.force(n, n));
        BranchedText x = Due.of("start a;put 1 b;cut 0 1;withdraw 2;go 0;put 0 c;");
        Due.fine("at itself", x, x.force(1, 1), 1);
        Due.fine("a CUT at itself", x, x.force(2, 2), 1);
        Due.fine("a CUT that is WITHDRAWN", x, x.force(2, 3), 0);
        Due.fine("another one there", x, x.force(1, 3), 1);
        Due.refused("a WITHDRAWN", x, x.force(3, 3), 5);
        Due.refused("the START", x, x.force(0, 3), 5);
        Due.refused("the START at itself", x, x.force(0, 0), 5);
        Due.refused("one below it", x, x.force(2, 1), 5);
        Due.refused("one of another LINE", x, x.force(1, 4), 5);
    }

    private static void p12() {
        Due.says("Of the LETTER at a PLACE of the DOCUMENT of HERE, what 0: the STATE that put it in, 1: which of its letters, "
            + "2: its place in the ROW (1: PLACE below 0, too; 5).");
        whats("blame", 2, (x, n) -> x.blame(0, n));
        all("blame, a PLACE", 1, BELOW, (x, n) -> x.blame(n, 0));
        all("blame, what behind the last PLACE", 1, new int[] {3, -1, MOST}, (x, n) -> x.blame(3, n));
        all("blame, a PLACE", 5, new int[] {3, 4, 120, MOST}, (x, n) -> x.blame(n, 0));
        BranchedText x = Due.of("start " + FORTY + ";cut 0 12;put 28 " + TWELVE + ";");
        blame(x, 0, 0, 12, 12);
        blame(x, 27, 0, 39, 39);
        blame(x, 28, 2, 0, 40);
        blame(x, 39, 2, 11, 51);
        Due.refused("blame(40, 0)", x, x.blame(40, 0), 5);
        x = new BranchedText();
        Due.refused("of an empty DOCUMENT", x, x.blame(0, 0), 5);
    }

    private static void blame(BranchedText x, int place, int... want) {
        for (int what = 0; what < want.length; what++) {
            Due.fine("blame(" + place + ", " + what + ")", x, x.blame(place, what), want[what]);
        }
    }

    private static void p13() {
        Due.says("Of the ROW of HERE, i-th LETTER, what 0: it, 1: the STATE that put it in, 2: 1 if one SEES it, else 0, 3: how many CUTS that are "
            + "IN FORCE took it, 4: the last CUT of the LINE that took it (NONE) (1: i below 0, too; 5); STATUS tells NONE from -1.");
        whats("row", 4, (x, n) -> x.row(0, n));
        all("row, i", 1, BELOW, (x, n) -> x.row(n, 0));
        all("row, what behind the last one", 1, new int[] {5, -1, MOST}, (x, n) -> x.row(4, n));
        all("row, i", 5, new int[] {4, 5, 603, 604, 605, MOST}, (x, n) -> x.row(n, 0));
        BranchedText x = Due.of("start az;cut 0 1;withdraw 1;cut 0 2;withdraw 3;cut 0 1;restore 1;restore 3;");
        // a: 1, 3 and 5 took it, z: 3 took it
        row(x, 0, 0, 0, 0, 3, 5);
        row(x, 1, 25, 0, 0, 1, 3);
        Due.refused("row(2, 0)", x, x.row(2, 0), 5);
        x.go(1);
        row(x, 0, 0, 0, 0, 1, 1);
        row(x, 1, 25, 0, 1, 0, -1);
        x.go(4);
        row(x, 0, 0, 0, 1, 0, 3);
        // a CUT of another LINE took it
        x.go(0);
        row(x, 0, 0, 0, 1, 0, -1);
    }

    private static void row(BranchedText x, int i, int... want) {
        for (int what = 0; what < want.length; what++) {
            Due.fine("row(" + i + ", " + what + ")", x, x.row(i, what), want[what]);
        }
    }

    private static void p14() {
        Due.says("Of the LOG, the i-th VISIT, the latest first, what 0: the STATE (NONE: it was PRUNED since), 1: NOW then "
            + "(1: i not 0 to 39; 5); STATUS tells NONE from -1.");
        whats("visit", 1, (x, n) -> x.visit(0, n));
        all("visit, i", 1, BELOW, (x, n) -> x.visit(n, 0));
        all("visit, i", 1, new int[] {40, 41, 80, MOST}, (x, n) -> x.visit(n, 0));
        all("visit, what behind the last one", 1, new int[] {2, -1, MOST}, (x, n) -> x.visit(5, n));
        all("visit, i", 5, new int[] {2, 3, 38, 39}, (x, n) -> x.visit(n, 0));
        // all of the LOG was PRUNED but the START
        BranchedText x = new BranchedText();
        Due.refused("none yet", x, x.visit(0, 0), 5);
        Due.type(x, "a");
        for (int i = 1; i < 48; i++) {
            x.put(0);
        }
        x.go(0);
        Due.fine("prune(1)", x, x.prune(1), 47);
        Due.fine("visit(0, 0)", x, x.visit(0, 0), 0);
        for (int i = 1; i < 40; i++) {
            Due.fine("visit(" + i + ", 0)", x, x.visit(i, 0), -1);
            Due.fine("visit(" + i + ", 1)", x, x.visit(i, 1), 0);
        }
        // a new one with its number is another one
        x.wait(7);
        Due.due("put", x.put(0), 1);
        Due.fine("visit(0, 0)", x, x.visit(0, 0), 1);
        Due.fine("visit(0, 1)", x, x.visit(0, 1), 7);
        Due.fine("visit(39, 0)", x, x.visit(39, 0), -1);
    }

    private static void p15() {
        Due.says("The STATE that has the word typed as NAME (1: the word has not 1 to 6 letters; 5).");
        wordOfName("named()", (x, n) -> x.named());
        BranchedText x = Due.of("name a;put 0 q;name aa;name aaaaaa;");
        named(x, "a", 0);
        named(x, "aa", 1);
        named(x, "aaaaaa", 1);
        Due.type(x, "aaaaa");
        Due.refused("named()", x, x.named(), 5);
        Due.type(x, "b");
        Due.refused("named()", x, x.named(), 5);
    }

    private static void named(BranchedText x, String name, int want) {
        Due.type(x, name);
        Due.fine("named() of " + name, x, x.named(), want);
    }

    /** The word has not 1 to 6 letters, whatever the NAMES are. */
    private static void wordOfName(String name, Call call) {
        BranchedText x = Due.of("name a;name b;name c;name d;name e;name f;name g;name h;name i;name j;name k;name abcdef;");
        for (String word : new String[] {"", "abcdefg", "abcdefgh", "abcdefghijk", TWELVE}) {
            Due.type(x, word);
            Due.refused(name + " of '" + word + "'", x, call.on(x, 0), 1);
        }
    }

    private static void p16() {
        Due.says("1 if the later one of two STATES LEANS ON the other one, else 0 (2; 5: they are not of one LINE, or one is no PUT, no CUT).");
        all("leans, a STATE", 2, NO_STATES, (x, n) -> x.leans(n, 1));
        all("leans, another one", 2, NO_STATES, (x, n) -> x.leans(1, n));
        all("leans, of the START", 2, NO_STATES, (x, n) -> x.leans(0, n));
        BranchedText x = Due.of("put 0 a;put 1 b;go 1;put 1 c;withdraw 3;");
        Due.fine("leans(2, 1)", x, x.leans(2, 1), 1);
        Due.fine("leans(1, 2)", x, x.leans(1, 2), 1);
        Due.fine("leans(1, 1)", x, x.leans(1, 1), 0);
        Due.fine("it is not IN FORCE", x, x.leans(3, 1), 1);
        Due.refused("leans(2, 3), not of one LINE", x, x.leans(2, 3), 5);
        Due.refused("leans(2, 4)", x, x.leans(2, 4), 5);
        Due.refused("leans(4, 3), a WITHDRAWN", x, x.leans(4, 3), 5);
        Due.refused("leans(0, 1), the START", x, x.leans(0, 1), 5);
        Due.refused("leans(0, 0)", x, x.leans(0, 0), 5);
        Due.refused("leans(4, 4)", x, x.leans(4, 4), 5);
    }

    private static void p17() {
        Due.says("PUT of the word typed: the new STATE (1: PLACE not 0 to LETTERS; the word is empty; 3; 6).");
        all("put", 1, BELOW, (x, n) -> x.put(n));
        all("put", 1, new int[] {4, 5, 120, 121, 256, MOST}, (x, n) -> x.put(n));
        all("put of no word", 1, new int[] {0, 3, 4, -1}, (x, n) -> Due.put(x, n, ""));
        BranchedText x = full();
        Due.refused("6", x, Due.put(x, 0, "a"), 6);
        Due.refused("6", x, Due.put(x, 120, TWELVE), 6);
        Due.refused("1 ahead of 6: PLACE", x, x.put(121), 1);
        Due.refused("1 ahead of 6: no word", x, Due.put(x, 0, ""), 1);
        fill(x);
        x.go(7);
        Due.refused("3 ahead of 6", x, Due.put(x, 0, "a"), 3);
        Due.refused("1 ahead of 3: PLACE", x, x.put(121), 1);
        Due.refused("1 ahead of 3: no word", x, Due.put(x, 0, ""), 1);
        x.go(0);
        Due.refused("3", x, Due.put(x, 0, "a"), 3);
    }

    /** 7 STATES, the last one of 120 LETTERS. */
    private static BranchedText full() {
        BranchedText x = Due.of("start " + FORTY + ";");
        for (int i = 0; i < 6; i++) {
            Due.put(x, 0, TWELVE);
        }
        Due.due("the seventh PUT", Due.put(x, 0, "abcdefgh"), 7);
        return x;
    }

    /** CUTS of the START till there are 48 STATES. */
    private static void fill(BranchedText x) {
        for (int i = x.many(0); i < 48; i++) {
            x.go(0);
            x.cut(0, 1);
        }
        Due.due("STATES", x.many(0), 48);
    }

    private static void p18() {
        Due.says("CUT: the new STATE (1: many not 1 to 12, PLACE below 0; 3; 5: not so many LETTERS from there on; of these 5 ahead of 3).");
        all("cut, many", 1, new int[] {0, -1, -12, LEAST, 13, 14, 120, MOST}, (x, n) -> x.cut(0, n));
        all("cut, a PLACE", 1, BELOW, (x, n) -> x.cut(n, 1));
        all("cut, many behind the last one", 1, new int[] {0, 13, MOST}, (x, n) -> x.cut(MOST, n));
        all("cut, a PLACE", 5, new int[] {3, 4, 120, MOST - 1, MOST}, (x, n) -> x.cut(n, 1));
        all("cut, a PLACE of 12", 5, new int[] {0, 3, MOST - 12, MOST}, (x, n) -> x.cut(n, 12));
        all("cut, many", 5, new int[] {4, 5, 12}, (x, n) -> x.cut(0, n));
        all("cut, many", 5, new int[] {2, 3, 12}, (x, n) -> x.cut(2, n));
        BranchedText x = three();
        Due.fine("cut(2, 1), the last one", x, x.cut(2, 1), 3);
        Due.fine("cut(0, 2), all", x, x.cut(0, 2), 4);
        Due.refused("cut(0, 1) of none", x, x.cut(0, 1), 5);
        fill(x);
        x.go(0);
        Due.refused("3", x, x.cut(0, 1), 3);
        Due.refused("3", x, x.cut(2, 1), 3);
        Due.refused("5 ahead of 3", x, x.cut(3, 1), 5);
        Due.refused("5 ahead of 3", x, x.cut(0, 4), 5);
        Due.refused("1 ahead of 5", x, x.cut(3, 13), 1);
        Due.refused("1 ahead of 3", x, x.cut(0, 0), 1);
        Due.refused("1 ahead of 3", x, x.cut(-1, 1), 1);
    }

    private static void p19() {
        Due.says("NOW is so much more (0 to 999): NOW (1).");
        all("wait", 1, BELOW, (x, n) -> x.wait(n));
        all("wait", 1, new int[] {1000, 1001, 65536, MOST}, (x, n) -> x.wait(n));
        BranchedText x = new BranchedText();
        Due.fine("wait(0)", x, x.wait(0), 0);
        Due.fine("wait(999)", x, x.wait(999), 999);
        Due.refused("wait(1000)", x, x.wait(1000), 1);
        Due.fine("wait(999)", x, x.wait(999), 1998);
        Due.fine("wait(0)", x, x.wait(0), 1998);
    }

    private static void p20() {
        Due.says("undo(): HERE then (5: HERE is the START).");
        BranchedText x = new BranchedText();
        Due.refused("undo()", x, x.undo(), 5);
        Due.put(x, 0, "a");
        Due.fine("undo()", x, x.undo(), 0);
        Due.fine("HERE", x, x.many(1), 0);
        Due.refused("undo()", x, x.undo(), 5);
        Due.fine("HERE", x, x.many(1), 0);
    }

    private static void p21() {
        Due.says("redo(): HERE then (5: HERE has no children).");
        BranchedText x = new BranchedText();
        Due.refused("redo()", x, x.redo(), 5);
        Due.put(x, 0, "a");
        Due.refused("redo()", x, x.redo(), 5);
        x.undo();
        Due.fine("redo()", x, x.redo(), 1);
        Due.fine("HERE", x, x.many(1), 1);
        x.undo();
        x.prune(1);
        Due.refused("its child went", x, x.redo(), 5);
    }

    private static void p22() {
        Due.says("HERE goes to a STATE: how many STATES the WAY has behind the first one (2; 4: it is HERE).");
        all("go", 2, NO_STATES, BranchedText::go);
        BranchedText x = three();
        Due.refused("go(2)", x, x.go(2), 4);
        Due.fine("go(0)", x, x.go(0), 2);
        Due.refused("go(0)", x, x.go(0), 4);
        Due.fine("go(1)", x, x.go(1), 1);
        Due.put(x, 0, "q");
        Due.fine("to one beside it", x, x.go(2), 2);
        x.go(1);
        Due.fine("prune(3)", x, x.prune(3), 1);
        Due.refused("one that was PRUNED", x, x.go(3), 2);
    }

    private static void p23() {
        Due.says("HERE has the word typed as NAME: how many NAMES there are (1: the word has not 1 to 6 letters; 3; 4: it is of HERE).");
        wordOfName("name()", (x, n) -> x.name());
        BranchedText x = Due.of("put 0 q;name a;name b;name c;name d;name e;name f;name g;name h;name i;name j;name k;");
        Due.fine("the 12th one", x, Due.name(x, "abcdef"), 12);
        Due.refused("4: it is of HERE", x, x.name(), 4);
        Due.refused("3", x, Due.name(x, "l"), 3);
        Due.refused("4: it is of HERE", x, Due.name(x, "a"), 4);
        x.go(0);
        Due.refused("3", x, Due.name(x, "l"), 3);
        Due.fine("one of another STATE", x, Due.name(x, "a"), 12);
        Due.refused("4: it is of HERE", x, x.name(), 4);
        Due.refused("1 ahead of 3", x, Due.name(x, "abcdefg"), 1);
    }

    private static void p24() {
        Due.says("The word typed is no NAME any more: how many are left (1; 5).");
        wordOfName("unname()", (x, n) -> x.unname());
        BranchedText x = Due.of("name a;put 0 q;name b;name c;");
        unnamed(x, "c", 2, "a=0 b=1");
        unnamed(x, "a", 1, "b=1");
        Due.refused("it went", x, x.unname(), 5);
        unnamed(x, "b", 0, "");
        Due.refused("none is left", x, x.unname(), 5);
        Due.fine("STATES stay", x, x.many(0), 2);
        Due.fine("it may come again", x, x.name(), 1);
    }

    private static void unnamed(BranchedText x, String name, int left, String told) {
        Due.type(x, name);
        Due.fine("unname() of " + name, x, x.unname(), left);
        Due.tells(x, 2, told);
        Due.refused("named() of " + name, x, x.named(), 5);
    }

    private static void p25() {
        Due.says("withdraw(): the new STATE (2; 3; 4: it is not IN FORCE; 6; 7; of these 7 ahead of 4, 3 last but 6).");
        all("withdraw", 2, NO_STATES, BranchedText::withdraw);
        turned("withdraw()", "cut 0 1;", "put 0 z;withdraw 2;", BranchedText::withdraw);
    }

    private static void p26() {
        Due.says("restore(): the new STATE (2; 3; 4: it is IN FORCE; 6; 7; likewise).");
        all("restore", 2, NO_STATES, BranchedText::restore);
        turned("restore()", "put 0 z;withdraw 1;", "put 0 y;", BranchedText::restore);
    }

    /** Behind what brings 1 so far that the call would be fine, and what brings one for which it is so already. */
    private static void turned(String name, String lines, String already, Call call) {
        BranchedText x = Due.of("start " + FORTY + ";" + lines + already);
        int one = x.state(2, 1) == 2 ? 3 : 2;
        Due.refused(name + " of the START", x, call.on(x, 0), 7);
        Due.refused(name + " that is so already", x, call.on(x, one), 4);
        int before = x.many(1);
        while (x.many(3) < 120) {
            Due.put(x, 0, TWELVE.substring(0, Math.min(12, 120 - x.many(3))));
        }
        int end = x.many(1);
        Due.refused(name + " to 121", x, call.on(x, 1), 6);
        Due.refused(name + ", 4 ahead of 6", x, call.on(x, one), 4);
        fill(x);
        x.go(end);
        Due.refused(name + ", 3 ahead of 6", x, call.on(x, 1), 3);
        Due.refused(name + ", 4 ahead of 3", x, call.on(x, one), 4);
        Due.refused(name + ", 7 ahead of 3: the START", x, call.on(x, 0), 7);
        Due.refused(name + ", 7 ahead of 3: another LINE", x, call.on(x, 47), 7);
        Due.refused(name + ", 2 ahead of 3", x, call.on(x, 48), 2);
        x.go(before);
        Due.refused(name + ", 3", x, call.on(x, 1), 3);
        x.go(0);
        Due.refused(name + ", 7 ahead of 4 and 3: below HERE", x, call.on(x, one), 7);
        x.prune(47);
        x.go(before);
        Due.due(name + " with one STATE less", call.on(x, 1) >= 0 ? 0 : x.status(), 0);
    }

    private static void p27() {
        Due.says("One is CARRIED: the new STATE (in this row: 2; 7: it is of the LINE of HERE, no PUT, no CUT; 10; 3; 6).");
        all("carry", 2, NO_STATES, BranchedText::carry);
        all("carry of its LINE", 7, new int[] {0, 1, 2}, BranchedText::carry);
        // HERE has 120 LETTERS; 8 can't come for these, 9 leans on 8, 10 is WITHDRAWN, 11 a CUT of one that is not seen here
        BranchedText x = full();
        x.go(0);
        Due.put(x, 0, "xy");
        Due.put(x, 1, "z");
        x.withdraw(9);
        x.go(0);
        x.cut(39, 1);
        x.go(7);
        x.cut(119, 1);
        Due.put(x, 0, "q");
        Due.due("LETTERS", x.many(3), 120);
        carries(x, 6);
        fill(x);
        x.go(13);
        carries(x, 3);
        Due.refused("2 ahead of 3", x, x.carry(48), 2);
    }

    private static void carries(BranchedText x, int why) {
        Due.refused("a PUT", x, x.carry(8), why);
        Due.refused("10: its LETTER is not in this ROW", x, x.carry(9), 10);
        Due.refused("10: one SEES none", x, x.carry(11), 10);
        Due.refused("7: a WITHDRAWN of another LINE", x, x.carry(10), 7);
        Due.refused("7: a PUT of its LINE", x, x.carry(7), 7);
        Due.refused("7: HERE", x, x.carry(13), 7);
        Due.refused("7: the START", x, x.carry(0), 7);
    }

    private static void p28() {
        Due.says("One is MERGED: how many were CARRIED (2; 4: it is of the LINE of HERE).");
        all("merge", 2, NO_STATES, BranchedText::merge);
        all("merge of its LINE", 4, new int[] {0, 1, 2}, BranchedText::merge);
        BranchedText x = Due.of("start a;cut 0 1;go 0;cut 0 1;");
        Due.fine("none", x, x.merge(1), 0);
        Due.fine("STATES", x, x.many(0), 3);
        x.go(0);
        Due.fine("one", x, x.merge(1), 1);
        x = full();
        x.go(0);
        Due.fine("all of 7", x, x.merge(7), 7);
        Due.fine("LETTERS", x, x.many(3), 120);
        x.go(0);
        x.cut(0, 1);
        Due.fine("all of 7 again", x, x.merge(7), 7);
        Due.fine("LETTERS", x, x.many(3), 119);
    }

    private static void p29() {
        Due.says("PRUNED to so many STATES (1 to 48): how many went (1).");
        all("prune", 1, BELOW, BranchedText::prune);
        all("prune", 1, new int[] {0, 49, 50, 256, MOST}, BranchedText::prune);
        BranchedText x = new BranchedText();
        Due.type(x, "a");
        for (int i = 1; i < 48; i++) {
            x.put(0);
        }
        Due.fine("prune(48)", x, x.prune(48), 0);
        Due.fine("HERE keeps all", x, x.prune(1), 0);
        x.go(0);
        Due.fine("prune(47)", x, x.prune(47), 1);
        Due.refused("the last one went", x, x.state(47, 0), 2);
        Due.fine("prune(2)", x, x.prune(2), 45);
        Due.fine("prune(1)", x, x.prune(1), 1);
        Due.fine("prune(1) again", x, x.prune(1), 0);
    }

    private static void p30() {
        Due.says("The nearest STATE of both LINES (2).");
        all("common, a STATE", 2, NO_STATES, (x, n) -> x.common(n, 0));
        all("common, another one", 2, NO_STATES, (x, n) -> x.common(2, n));
        BranchedText x = Due.of("put 0 a;put 1 b;put 2 c;go 1;put 1 d;go 0;put 0 e;");
        int[][] want = {{0, 0, 0, 0, 0, 0}, {0, 1, 1, 1, 1, 0}, {0, 1, 2, 2, 1, 0}, {0, 1, 2, 3, 1, 0}, {0, 1, 1, 1, 4, 0},
            {0, 0, 0, 0, 0, 5}};
        for (int a = 0; a < 6; a++) {
            for (int b = 0; b < 6; b++) {
                Due.fine("common(" + a + ", " + b + ")", x, x.common(a, b), want[a][b]);
            }
        }
    }

    private static void p31() {
        Due.says("The i-th STATE of the WAY (0: the first one) (1: i below 0; 2; 5).");
        all("way, i", 1, BELOW, (x, n) -> x.way(0, 2, n));
        all("way, i of no STATE", 1, BELOW, (x, n) -> x.way(48, 48, n));
        all("way, a STATE", 2, NO_STATES, (x, n) -> x.way(n, 0, 0));
        all("way, another one", 2, NO_STATES, (x, n) -> x.way(0, n, MOST));
        all("way, i", 5, new int[] {3, 4, 48, MOST}, (x, n) -> x.way(0, 2, n));
        all("way, i", 5, new int[] {1, 2, 48, MOST}, (x, n) -> x.way(2, 2, n));
        BranchedText x = three();
        Due.fine("way(0, 2, 0)", x, x.way(0, 2, 0), 0);
        Due.fine("way(0, 2, 2)", x, x.way(0, 2, 2), 2);
        Due.fine("way(2, 0, 0)", x, x.way(2, 0, 0), 2);
        Due.fine("way(2, 0, 2)", x, x.way(2, 0, 2), 0);
        Due.fine("way(2, 2, 0)", x, x.way(2, 2, 0), 2);
        // the nearest STATE is not the START
        x = Due.of("put 0 a;put 1 b;put 2 c;go 1;put 1 d;put 1 e;");
        int[] want = {3, 2, 1, 4, 5};
        for (int i = 0; i < want.length; i++) {
            Due.fine("way(3, 5, " + i + ")", x, x.way(3, 5, i), want[i]);
            Due.fine("way(5, 3, " + i + ")", x, x.way(5, 3, i), want[4 - i]);
        }
        Due.refused("way(3, 5, 5)", x, x.way(3, 5, 5), 5);
        Due.refused("way(5, 3, 5)", x, x.way(5, 3, 5), 5);
    }

    private static void p32() {
        Due.says("BETWEEN two STATES, what 0: KEPT, 1: LOST, 2: CAME, 3: the PLACE of the first difference of the DOCUMENTS by their LETTERS "
            + "(as many as the shorter one has, if there is none before; NONE: they are the same) (1; 2); STATUS tells NONE from -1.");
        whats("between", 3, (x, n) -> x.between(0, 1, n));
        all("between, what of no STATE", 1, new int[] {4, -1, MOST}, (x, n) -> x.between(48, 48, n));
        all("between, a STATE", 2, NO_STATES, (x, n) -> x.between(n, 0, 0));
        all("between, another one", 2, NO_STATES, (x, n) -> x.between(0, n, 3));
        BranchedText x = Due.of("put 0 abc;go 0;put 0 abcd;go 0;put 0 abd;go 0;put 0 xbc;go 0;put 0 abc;");
        Due.fine("none, none", x, x.between(0, 0, 3), -1);
        Due.fine("none, some", x, x.between(0, 1, 3), 0);
        Due.fine("some, none", x, x.between(1, 0, 3), 0);
        Due.fine("the shorter one has 3", x, x.between(1, 2, 3), 3);
        Due.fine("the shorter one has 3", x, x.between(2, 1, 3), 3);
        Due.fine("the last one", x, x.between(1, 3, 3), 2);
        Due.fine("the first one", x, x.between(1, 4, 3), 0);
        Due.fine("the same", x, x.between(1, 5, 3), -1);
        Due.fine("itself", x, x.between(1, 1, 3), -1);
    }

    private static void p33() {
        Due.says("LEAST between the DOCUMENTS of two STATES (2).");
        all("least, a STATE", 2, NO_STATES, (x, n) -> x.least(n, 0));
        all("least, another one", 2, NO_STATES, (x, n) -> x.least(0, n));
        BranchedText x = three();
        Due.fine("least(0, 1)", x, x.least(0, 1), 1);
        Due.fine("least(0, 2)", x, x.least(0, 2), 0);
        Due.fine("least(1, 1)", x, x.least(1, 1), 0);
    }

    private static void p34() {
        Due.says("Were a STATE MERGED, what 0: how many were CARRIED, 1: how many were left out, 2: LETTERS of the DOCUMENT then (1; 2; 4).");
        all("merges, what", 1, new int[] {3, 4, -1, LEAST, MOST}, (x, n) -> x.merges(0, n));
        all("merges, what of no STATE", 1, new int[] {3, -1}, (x, n) -> x.merges(48, n));
        all("merges, a STATE", 2, NO_STATES, (x, n) -> x.merges(n, 0));
        all("merges, of its LINE", 4, new int[] {0, 1, 2}, (x, n) -> x.merges(n, 2));
        BranchedText x = Due.of("start a;cut 0 1;put 0 bc;go 0;cut 0 1;");
        merges(x, 1, 0, 1, 0);
        merges(x, 2, 1, 1, 2);
        x.go(0);
        merges(x, 1, 1, 0, 0);
        merges(x, 2, 2, 0, 2);
        Due.fine("STATES", x, x.many(0), 4);
        Due.fine("merge(2)", x, x.merge(2), 2);
        Due.fine("LETTERS", x, x.many(3), 2);
    }

    private static void merges(BranchedText x, int state, int... want) {
        for (int what = 0; what < 3; what++) {
            Due.fine("merges(" + state + ", " + what + ")", x, x.merges(state, what), want[what]);
        }
    }

    private static void p35() {
        Due.says("OUT is told anew: how many bytes (1).");
        whats("tell", 2, BranchedText::tell);
        BranchedText x = Due.of("start abc;name k;");
        Due.fine("tell(0)", x, x.tell(0), 3);
        Due.fine("tell(1), shorter", x, x.tell(1), 1);
        Due.refused("nothing is left of the longer one", x, x.out(1), 5);
        Due.fine("tell(2)", x, x.tell(2), 3);
        x.unname();
        Due.type(x, "k");
        x.unname();
        Due.fine("tell(2) without NAMES", x, x.tell(2), 0);
        Due.refused("out(0)", x, x.out(0), 5);
        x.cut(0, 3);
        Due.fine("tell(0) without LETTERS", x, x.tell(0), 0);
        x = full();
        Due.fine("tell(0) of 120", x, x.tell(0), 120);
    }

    private static void p36() {
        Due.says("Byte i of OUT (1: below 0; 5).");
        BranchedText x = three();
        for (int i : BELOW) {
            Due.refused("out(" + i + ") of none", x, x.out(i), 1);
        }
        for (int i : new int[] {0, 1, 159, 160, 161, MOST}) {
            Due.refused("out(" + i + ") of none", x, x.out(i), 5);
        }
        x.tell(0);
        for (int i : BELOW) {
            Due.refused("out(" + i + ")", x, x.out(i), 1);
        }
        for (int i : new int[] {3, 4, 159, 160, 161, MOST}) {
            Due.refused("out(" + i + ")", x, x.out(i), 5);
        }
        Due.fine("out(0)", x, x.out(0), 'a');
        Due.fine("out(2)", x, x.out(2), 'c');
    }

    private static void p37() {
        Due.says("Of LEANING of a STATE, what 0: how many, 1: how many of them are IN FORCE, 2: how many LETTERS of the DOCUMENT of HERE they put in, "
            + "3: LETTERS that the DOCUMENT would have, were it withdrawn (1; 2; 7).");
        whats("leaning", 3, (x, n) -> x.leaning(1, n));
        all("leaning, what of no STATE", 1, new int[] {4, -1, MOST}, (x, n) -> x.leaning(48, n));
        all("leaning, what of the START", 1, new int[] {4, -1, MOST}, (x, n) -> x.leaning(0, n));
        all("leaning, a STATE", 2, NO_STATES, (x, n) -> x.leaning(n, 0));
        all("leaning, the START, a WITHDRAWN", 7, new int[] {0, 2}, (x, n) -> x.leaning(n, 0));
        BranchedText x = three();
        leaning(x, 1, 1, 0, 0, 3);
        x.go(1);
        leaning(x, 1, 1, 1, 1, 3);
        x.cut(0, 4);
        leaning(x, 1, 2, 2, 0, 3);
        leaning(x, 3, 1, 1, 0, 4);
        x.withdraw(3);
        leaning(x, 1, 2, 1, 1, 3);
        x.go(0);
        Due.refused("below HERE", x, x.leaning(1, 0), 7);
        x = Due.of("put 0 ab;put 2 c;put 0 d;");
        leaning(x, 1, 2, 2, 3, 1);
        leaning(x, 3, 1, 1, 1, 3);
        // on paper there may be more than 120
        x = Due.of("start " + FORTY + ";cut 0 12;");
        for (int i = 0; i < 7; i++) {
            Due.put(x, 0, TWELVE);
        }
        Due.put(x, 0, "abcdefgh");
        Due.due("LETTERS", x.many(3), 120);
        leaning(x, 1, 1, 1, 0, 132);
        Due.refused("withdraw(1)", x, x.withdraw(1), 6);
    }

    private static void leaning(BranchedText x, int state, int... want) {
        for (int what = 0; what < 4; what++) {
            Due.fine("leaning(" + state + ", " + what + ")", x, x.leaning(state, what), want[what]);
        }
    }

    private static void p38() {
        Due.says("The least STATE whose DOCUMENT has the word typed in it (what 0), how many STATES have (1; 5: of 0 none), the PLACE where it stands "
            + "first in that of HERE (2; 5: nowhere) (1; the word is empty: 1).");
        whats("find", 2, BranchedText::find);
        all("find without a word", 1, new int[] {0, 1, 2, 3, -1}, (x, n) -> {
            Due.type(x, "");
            return x.find(n);
        });
        BranchedText x = Due.of("start abab;put 4 " + TWELVE + ";cut 0 4;cut 0 12;");
        Due.type(x, "a");
        Due.refused("HERE has no LETTERS", x, x.find(2), 5);
        Due.fine("the START has it", x, x.find(0), 0);
        Due.fine("three have it", x, x.find(1), 3);
        x.go(0);
        find(x, "ab", 0, 3, 0);
        find(x, "ba", 0, 2, 1);
        find(x, "b", 0, 3, 1);
        find(x, "abab", 0, 2, 0);
        find(x, "bab", 0, 2, 1);
        x.go(1);
        find(x, "ababa", 1, 1, 0);
        find(x, TWELVE, 1, 2, 4);
        find(x, "l", 1, 2, 15);
        x.go(2);
        find(x, TWELVE, 1, 2, 0);
        Due.type(x, "zz");
        Due.refused("nowhere: find(0)", x, x.find(0), 5);
        Due.fine("nowhere: find(1)", x, x.find(1), 0);
        Due.refused("nowhere: find(2)", x, x.find(2), 5);
        Due.type(x, "lm");
        Due.refused("its first letter is the last one", x, x.find(2), 5);
    }

    /** The answers of find(0), find(1), find(2). */
    private static void find(BranchedText x, String word, int least, int many, int place) {
        Due.type(x, word);
        Due.fine("find(0) of " + word, x, x.find(0), least);
        Due.fine("find(1) of " + word, x, x.find(1), many);
        Due.fine("find(2) of " + word, x, x.find(2), place);
    }

    private static void p39() {
        Due.says("The STATE that would go first, were one PRUNED (5: none would).");
        BranchedText x = new BranchedText();
        Due.refused("the START", x, x.first(), 5);
        Due.put(x, 0, "a");
        Due.refused("HERE", x, x.first(), 5);
        x.go(0);
        Due.fine("a leaf", x, x.first(), 1);
        Due.fine("it is still there", x, x.state(1, 1), 0);
        x.go(1);
        Due.name(x, "k");
        x.go(0);
        Due.refused("it has a NAME", x, x.first(), 5);
        x.unname();
        Due.fine("it has none", x, x.first(), 1);
        x.prune(1);
        Due.refused("it went", x, x.first(), 5);
    }

    private static void p40() {
        Due.says("The STATE but a given one whose DOCUMENT is the same LETTERS, the least such (2; 5).");
        all("twin", 2, NO_STATES, BranchedText::twin);
        BranchedText x = new BranchedText();
        Due.refused("the START alone", x, x.twin(0), 5);
        x = Due.of("put 0 ab;cut 0 2;put 0 ab;put 2 c;cut 2 1;put 0 ba;");
        Due.fine("both empty", x, x.twin(0), 2);
        Due.fine("both empty", x, x.twin(2), 0);
        Due.fine("the least of two", x, x.twin(5), 1);
        Due.fine("the least but itself", x, x.twin(1), 3);
        Due.refused("one longer", x, x.twin(4), 5);
        Due.refused("other letters", x, x.twin(6), 5);
    }

    private static void p41() {
        Due.says("Where HERE would be behind so many undo() (1 to 48) (1; 5: there are not so many).");
        all("back", 1, BELOW, BranchedText::back);
        all("back", 1, new int[] {0, 49, 50, MOST}, BranchedText::back);
        all("back", 5, new int[] {3, 4, 47, 48}, BranchedText::back);
        BranchedText x = new BranchedText();
        Due.refused("back(1)", x, x.back(1), 5);
        Due.refused("back(48)", x, x.back(48), 5);
        Due.type(x, "a");
        for (int i = 1; i < 48; i++) {
            x.put(0);
        }
        Due.fine("back(1)", x, x.back(1), 46);
        Due.fine("back(46)", x, x.back(46), 1);
        Due.fine("back(47)", x, x.back(47), 0);
        Due.refused("back(48)", x, x.back(48), 5);
        x.undo();
        Due.fine("back(46)", x, x.back(46), 0);
        Due.refused("back(47)", x, x.back(47), 5);
        // GROUPS, not STATES
        x = Due.of("put 0 a;put 1 b;wait 3;put 2 c;put 3 d;");
        Due.fine("back(1)", x, x.back(1), 2);
        Due.fine("back(2)", x, x.back(2), 0);
        Due.refused("back(3)", x, x.back(3), 5);
    }

    private static void upTo20() {
        p01();
        p02();
        p03();
        p04();
        p05();
        p06();
        p07();
        p08();
        p09();
        p10();
        p11();
        p12();
        p13();
        p14();
        p15();
        p16();
        p17();
        p18();
        p19();
        p20();
    }

    public static void main(String[] args) {
        Due.says("The constants: NONE = -1: None.");
        Due.due("NONE", BranchedText.NONE, -1);
        upTo20();
        p21();
        p22();
        p23();
        p24();
        p25();
        p26();
        p27();
        p28();
        p29();
        p30();
        p31();
        p32();
        p33();
        p34();
        p35();
        p36();
        p37();
        p38();
        p39();
        p40();
        p41();
        Due.end("PromisesEdgesTest");
    }
}
