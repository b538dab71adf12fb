/** What the tests share: answers held against those that are due, words and TEXTS. */
final class Due {
    private static int wrong = 0;
    private static int held = 0;
    private static String sentence = "";

    private Due() {
    }

    /** The sentence of the document that the answers from here on hold to. */
    static void says(String words) {
        sentence = words;
    }

    private static void fail(String what) {
        wrong++;
        System.out.println((sentence.isEmpty() ? "" : "\"" + sentence + "\": ") + what);
    }

    static void due(String call, int got, int want) {
        held++;
        if (got != want) {
            fail(call + " answered " + got + ", due is " + want);
        }
    }

    static void same(String what, String got, String want) {
        held++;
        if (!got.equals(want)) {
            fail(what + " is '" + got + "', due is '" + want + "'");
        }
    }

    /** A call that is refused: NONE, and this STATUS. */
    static void refused(String call, BranchedText x, int got, int why) {
        due(call, got, BranchedText.NONE);
        due("status() behind " + call, x.status(), why);
    }

    /** A call that answers this, with the STATUS 0. */
    static void fine(String call, BranchedText x, int got, int want) {
        due(call, got, want);
        due("status() behind " + call, x.status(), 0);
    }

    static int type(BranchedText x, String word) {
        int[] ab = new int[2];
        for (int i = 0; i < word.length(); i++) {
            ab[i / 6] |= (word.charAt(i) - 'a' + 1) << 5 * (i % 6);
        }
        return x.type(ab[0], ab[1]);
    }

    static int put(BranchedText x, int place, String word) {
        type(x, word);
        return x.put(place);
    }

    static int name(BranchedText x, String word) {
        type(x, word);
        return x.name();
    }

    static void feed(BranchedText x, String text) {
        for (int i = 0; i < text.length(); i += 20) {
            int[] five = new int[5];
            for (int k = 0; k < 20; k++) {
                int c = i + k < text.length() ? text.charAt(i + k) : 0;
                five[k / 4] = five[k / 4] << 8 | c;
            }
            x.feed(five[0], five[1], five[2], five[3], five[4]);
        }
    }

    static int load(BranchedText x, String text) {
        feed(x, text);
        return x.load(text.length());
    }

    static BranchedText of(String text) {
        BranchedText x = new BranchedText();
        load(x, text);
        due("fault(0) of " + text, x.fault(0), 0);
        return x;
    }

    static void faulty(String text, int kind, int place) {
        BranchedText x = new BranchedText();
        refused("load() of " + text, x, load(x, text), 9);
        due("fault(0) of " + text, x.fault(0), kind);
        due("fault(1) of " + text, x.fault(1), place);
    }

    static String told(BranchedText x, int what) {
        int size = x.tell(what);
        StringBuilder b = new StringBuilder();
        for (int i = 0; i < size; i++) {
            b.append((char) x.out(i));
        }
        return b.toString();
    }

    static void tells(BranchedText x, int what, String want) {
        same("what tell(" + what + ") told", told(x, what), want);
    }

    static void end(String name) {
        System.out.println(name + ": " + held + " answers, " + wrong + " not as due");
        if (wrong > 0) {
            System.exit(1);
        }
    }
}
