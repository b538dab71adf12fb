import java.util.Arrays;

/** Long runs of calls, each held against the Model; the same ones each time. */
public final class ModelTest {
    private static final String[] DONE = {"put", "put", "put", "put", "put", "cut", "cut", "wait", "undo", "redo",
        "go", "go", "name", "unname", "withdraw", "withdraw", "restore", "restore", "carry", "carry", "merge", "prune"};
    private static final String[] FULL = {"put", "put", "put", "put", "cut", "cut", "undo", "redo", "go",
        "withdraw", "withdraw", "withdraw", "restore", "restore", "carry", "carry", "merge"};
    private static final String[] NAMING = {"put", "put", "go", "name", "name", "name", "name", "name", "undo", "prune"};
    private static final String[] ASKED = {"many", "letter", "state", "child", "force", "blame", "row", "visit", "named",
        "leans", "common", "way", "between", "least", "merges", "tell", "out", "leaning", "find", "first", "twin", "back",
        "fault", "status"};
    private static final String[] VALUES = {"gap", "size", "kind", "same", "near", "long"};
    private static final String[] LINES = {"put", "put", "put", "cut", "wait", "undo", "redo", "go", "name", "withdraw",
        "restore", "carry", "merge", "prune"};
    private static final String[] ODD = {"[", "]", "<", "=", ">", ";", "not", "and", "or", "join", "start", "1000", "7",
        "gap", "put", "a", "!", "abcdefghijklm", "abcdefg", "\t", "A"};

    private long seed;
    private BranchedText text;
    private Model model;
    private String told;
    private String[] acts = DONE;
    private int calls;

    private ModelTest(long seed) {
        this.seed = seed * 7919 + 17;
        text = new BranchedText();
        model = new Model();
    }

    private int below(int bound) {
        seed = seed * 6364136223846793005L + 1442695040888963407L;
        return (int) ((seed >>> 33) % bound);
    }

    private boolean once(int in) {
        return below(in) == 0;
    }

    private void call(String name, int... a) {
        calls++;
        int want = model.call(name, a);
        int got = of(text, name, a);
        if (got != want || text.status() != model.status) {
            throw new IllegalStateException("call " + calls + " " + name + Arrays.toString(a) + " answered " + got
                + " (status " + text.status() + "), due is " + want + " (status " + model.status + ") " + told);
        }
    }

    private static int of(BranchedText x, String name, int[] a) {
        switch (name) {
            case "status": return x.status();
            case "feed": return x.feed(a[0], a[1], a[2], a[3], a[4]);
            case "load": return x.load(a[0]);
            case "fault": return x.fault(a[0]);
            case "type": return x.type(a[0], a[1]);
            case "many": return x.many(a[0]);
            case "letter": return x.letter(a[0], a[1]);
            case "state": return x.state(a[0], a[1]);
            case "child": return x.child(a[0], a[1]);
            case "force": return x.force(a[0], a[1]);
            case "blame": return x.blame(a[0], a[1]);
            case "row": return x.row(a[0], a[1]);
            case "visit": return x.visit(a[0], a[1]);
            case "named": return x.named();
            case "leans": return x.leans(a[0], a[1]);
            case "put": return x.put(a[0]);
            case "cut": return x.cut(a[0], a[1]);
            case "wait": return x.wait(a[0]);
            case "undo": return x.undo();
            case "redo": return x.redo();
            case "go": return x.go(a[0]);
            case "name": return x.name();
            case "unname": return x.unname();
            case "withdraw": return x.withdraw(a[0]);
            case "restore": return x.restore(a[0]);
            case "carry": return x.carry(a[0]);
            case "merge": return x.merge(a[0]);
            case "prune": return x.prune(a[0]);
            case "common": return x.common(a[0], a[1]);
            case "way": return x.way(a[0], a[1], a[2]);
            case "between": return x.between(a[0], a[1], a[2]);
            case "least": return x.least(a[0], a[1]);
            case "merges": return x.merges(a[0], a[1]);
            case "tell": return x.tell(a[0]);
            case "out": return x.out(a[0]);
            case "leaning": return x.leaning(a[0], a[1]);
            case "find": return x.find(a[0]);
            case "first": return x.first();
            case "twin": return x.twin(a[0]);
            case "back": return x.back(a[0]);
            default: throw new IllegalArgumentException(name);
        }
    }

    private int wild() {
        int[] some = {-1, -2, 48, 49, 47, 12, 13, 40, 39, 120, 999, 1000, Integer.MAX_VALUE, Integer.MIN_VALUE, 10, 5, 4};
        return some[below(some.length)];
    }

    private int stateArgument() {
        return once(30) ? wild() : below(Math.min(48, model.states.size() + 1));
    }

    private int placeArgument(int many) {
        return once(30) ? wild() : below(many + 2);
    }

    private int whatArgument(int many) {
        return once(30) ? wild() : below(many + 1);
    }

    private void type(int most) {
        int size = below(most + 1);
        int[] ab = new int[2];
        for (int i = 0; i < size; i++) {
            int letter = once(200) ? 27 + below(5) : 1 + below(3);
            ab[i / 6] |= letter << 5 * (i % 6);
        }
        if (once(10)) {
            ab[1] = below(1 << 30);
        }
        call("type", ab[0] | below(4) << 30, ab[1]);
    }

    private void doOne(int longest) {
        String name = acts[below(acts.length)];
        int letters = model.here.document.size();
        switch (name) {
            case "put":
                if (acts == FULL && !once(3)) {
                    call("type", 1 + below(1 << 30) & 0x1ce739ce | 0x02108421, below(1 << 30) & 0x1ce739ce | 0x02108421);
                } else if (!once(3)) {
                    type(longest);
                }
                call("put", once(3) && model.here.act == 0 ? model.here.place + model.here.size() : placeArgument(letters));
                break;
            case "cut":
                call("cut", once(3) && model.here.act == 1 ? model.here.place : placeArgument(letters),
                    once(30) ? wild() : acts == FULL && !once(4) ? 12 : 1 + below(once(3) ? 12 : 3));
                break;
            case "wait": call("wait", once(30) ? wild() : below(4)); break;
            case "name":
            case "unname":
                if (!once(3)) {
                    type(once(5) ? 7 : acts == NAMING ? 3 : 2);
                }
                call(name);
                break;
            case "undo": case "redo": call(name); break;
            case "prune":
                call("prune", once(5) ? wild() : Math.max(1, model.states.size() - below(4)));
                break;
            default: call(name, stateArgument());
        }
    }

    private void askOne() {
        String name = ASKED[below(ASKED.length)];
        int letters = model.here.document.size();
        switch (name) {
            case "many": call(name, whatArgument(10)); break;
            case "letter": call(name, stateArgument(), placeArgument(letters)); break;
            case "state": call(name, stateArgument(), whatArgument(10)); break;
            case "child": call(name, stateArgument(), placeArgument(3)); break;
            case "blame": call(name, placeArgument(letters), whatArgument(3)); break;
            case "row": call(name, placeArgument(model.here.row.size()), whatArgument(5)); break;
            case "visit": call(name, placeArgument(41), whatArgument(2)); break;
            case "way": call(name, stateArgument(), stateArgument(), placeArgument(8)); break;
            case "between": call(name, stateArgument(), stateArgument(), whatArgument(4)); break;
            case "merges": call(name, stateArgument(), whatArgument(3)); break;
            case "leaning": call(name, stateArgument(), whatArgument(4)); break;
            case "force": case "leans": case "common": case "least": call(name, stateArgument(), stateArgument()); break;
            case "tell": case "find": call(name, whatArgument(3)); break;
            case "out": call(name, placeArgument(30)); break;
            case "fault": call(name, whatArgument(2)); break;
            case "twin": call(name, stateArgument()); break;
            case "back": call(name, placeArgument(6)); break;
            default: call(name);
        }
    }

    /** All that can be asked, of all STATES. */
    private void sweep() {
        for (int what = 0; what <= 10; what++) {
            call("many", what);
            for (int s = 0; s < 48; s++) {
                call("state", s, what);
            }
        }
        for (int s = -1; s < 49; s++) {
            call("child", s, 0);
            call("child", s, 1);
            call("child", s, 2);
            call("twin", s);
            for (int what = 0; what < 4; what++) {
                call("leaning", s, what);
                call("merges", s, what);
            }
            int o = stateArgument();
            call("force", s, model.here.number);
            call("force", s, o);
            call("leans", s, o);
            call("common", s, o);
            call("least", s, o);
            for (int what = 0; what < 4; what++) {
                call("between", s, o, what);
                call("way", o, s, what);
            }
        }
        for (int i = 0; i <= model.here.row.size(); i++) {
            for (int what = 0; what < 5; what++) {
                call("row", i, what);
                call("blame", i, what);
            }
        }
        for (int i = 0; i < 41; i++) {
            call("visit", i, 0);
            call("visit", i, 1);
            call("back", i);
        }
        for (int what = 0; what < 3; what++) {
            int size = model.call("tell", what);
            call("tell", what);
            for (int i = 0; i <= size; i++) {
                call("out", i);
            }
            call("find", what);
        }
        call("first");
    }

    // ---- TEXTS

    private String word(int most) {
        return wordOf(1 + below(most));
    }

    private String wordOf(int size) {
        StringBuilder b = new StringBuilder();
        for (int i = size; i > 0; i--) {
            b.append((char) ('a' + below(3)));
        }
        return b.toString();
    }

    private String fact(int depth) {
        if (depth < 8 && once(4)) {
            return "not " + fact(depth + 1);
        }
        if (depth < 8 && once(4)) {
            return "[" + test(depth + 1) + "]";
        }
        return VALUES[below(6)] + "<=>".charAt(below(3)) + below(once(9) ? 1200 : 4);
    }

    private String test(int depth) {
        StringBuilder b = new StringBuilder(fact(depth));
        while (once(2) && b.length() < 200) {
            b.append(once(2) ? " and " : " or ").append(fact(depth));
        }
        return b.toString();
    }

    private String line() {
        String name = LINES[below(LINES.length)];
        switch (name) {
            case "put": return "put " + below(4) + " " + word(once(9) ? 13 : 4) + ";";
            case "cut": return "cut " + below(3) + " " + (1 + below(2)) + ";";
            case "wait": return "wait " + below(3) + ";";
            case "name": return "name " + word(once(9) ? 7 : 2) + ";";
            case "undo": case "redo": return name + ";";
            case "prune": return "prune " + (1 + below(20)) + ";";
            default: return name + " " + below(6) + ";";
        }
    }

    /** A TEXT that is fine most often: a LINE that the Model refuses is left out of it. */
    private String someText(boolean fine) {
        StringBuilder b = new StringBuilder();
        if (!once(3)) {
            b.append("start ").append(word(once(20) ? 42 : 12)).append(";");
        }
        if (!once(3)) {
            b.append(once(2) ? " " : "\n").append("join ").append(test(0)).append(";");
        }
        Model trial = new Model();
        for (int i = 0; i < 60 && b.length() < 660; i++) {
            int size = b.length();
            b.append(once(5) ? "  " : "").append(line());
            try {
                trial.run(b.toString());
            } catch (Model.Refused r) {
                if (fine) {
                    b.setLength(size);
                }
            }
        }
        while (!fine && once(2)) {
            int at = below(b.length() + 1);
            int end = Math.min(b.length(), at + below(6));
            b.replace(at, end, once(2) ? "" : ODD[below(ODD.length)]);
        }
        return b.length() > 700 ? b.substring(0, 700) : b.toString();
    }

    private void loadText(String words) {
        told = words;
        for (int i = 0; i < words.length(); i += 20) {
            int[] five = new int[5];
            for (int k = 0; k < 20; k++) {
                int c = i + k < words.length() ? words.charAt(i + k) : 0;
                five[k / 4] = five[k / 4] << 8 | c;
            }
            call("feed", five);
        }
        if (once(20)) {
            call("load", wild());
        }
        call("load", Math.min(words.length(), model.tape.size()));
        call("fault", 0);
        call("fault", 1);
    }

    private void run() {
        int longest = once(3) ? 12 : once(2) ? 5 : 3;
        int asks = below(4);
        if (once(4)) {
            acts = FULL;
            loadText("start " + wordOf(30 + below(11)) + ";");
        } else if (once(8)) {
            acts = NAMING;
        } else if (once(2)) {
            loadText(someText(true));
        }
        int steps = 20 + below(120);
        for (int i = 0; i < steps; i++) {
            doOne(longest);
            for (int k = 0; k < asks; k++) {
                askOne();
            }
            if (acts == DONE && once(40)) {
                loadText(someText(once(2)));
            }
        }
        sweep();
    }

    private static int faults(long first, long last) {
        int wrong = 0;
        for (long seed = first; seed < last && wrong < 5; seed++) {
            ModelTest test = new ModelTest(seed);
            try {
                test.run();
            } catch (RuntimeException e) {
                wrong++;
                System.out.println("run " + seed + ": " + e);
                if (!(e instanceof IllegalStateException)) {
                    e.printStackTrace(System.out);
                }
            }
        }
        return wrong;
    }

    private static int badTexts(long first, long last) {
        int wrong = 0;
        int[] seen = new int[10];
        for (long seed = first; seed < last && wrong < 5; seed++) {
            ModelTest test = new ModelTest(seed);
            try {
                test.loadText(test.someText(test.once(10)));
                seen[Math.max(test.text.fault(0), 0)]++;
            } catch (IllegalStateException e) {
                wrong++;
                System.out.println("text " + seed + ": " + e);
            }
        }
        for (int kind : new int[] {0, 1, 2, 4, 6, 7}) {
            if (seen[kind] == 0) {
                wrong++;
                System.out.println("no text had the FAULT " + kind);
            }
        }
        return wrong;
    }

    public static void main(String[] args) {
        long runs = args.length > 0 ? Long.parseLong(args[0]) : 400;
        long from = args.length > 1 ? Long.parseLong(args[1]) : 0;
        int wrong = faults(from, from + runs) + badTexts(from, from + runs);
        if (wrong > 0) {
            System.exit(1);
        }
    }
}
