/** A document whose history branches: every state that it ever had stays within reach. */
public final class BranchedText {
    public static final int NONE = -1;

    private static final int MOST_STATES = 48;
    private static final int MOST_LETTERS = 120;
    private static final int MOST_WORD = 12;
    private static final int MOST_START = 40;
    private static final int MOST_ROW = MOST_START + (MOST_STATES - 1) * MOST_WORD;
    private static final int MOST_TEXT = 700;
    private static final int MOST_NAMES = 12;
    private static final int MOST_NAME = 6;
    private static final int MOST_LOG = 40;
    private static final int MOST_NESTED = 6;
    private static final int MOST_WAIT = 999;
    private static final int MOST_TOLD = 160;
    private static final int ALPHABET = 26;
    private static final int FED = 20;

    private static final int PUT = 0;
    private static final int CUT = 1;
    private static final int WITHDRAWN = 2;
    private static final int GIVEN_BACK = 3;

    private static final int FINE = 0;
    private static final int BAD_NUMBER = 1;
    private static final int NO_STATE = 2;
    private static final int ONE_TOO_MANY = 3;
    private static final int SO_ALREADY = 4;
    private static final int THERE_IS_NONE = 5;
    private static final int TOO_LONG = 6;
    private static final int ELSEWHERE = 7;
    private static final int FAULTY = 9;
    private static final int NOT_SO_AT_HERE = 10;

    private final int[] told = new int[MOST_TOLD];
    private final Word typed = new Word();
    private final Reader reader = new Reader();
    private History history = new History();
    /** What load() builds in, so that a TEXT with a FAULT leaves the other one as it is. */
    private History spare = new History();
    private int toldSize;
    private int status;
    private boolean loaded;

    public BranchedText() {
        toldSize = 0;
        status = FINE;
        loaded = false;
    }

    private int refused(int why) {
        status = why;
        return NONE;
    }

    private int given(int value) {
        status = FINE;
        return value;
    }

    /** What a History answers: below 0 it is a STATUS, with the other sign. */
    private int answered(int value) {
        return value < 0 ? refused(-value) : given(value);
    }

    private static boolean within(int value, int least, int most) {
        return value >= least && value <= most;
    }

    // ---- what has no STATUS

    public int status() {
        return status;
    }

    public int feed(int a, int b, int c, int d, int e) {
        if (reader.tapeSize + FED > MOST_TEXT) {
            return NONE;
        }
        feedInt(a);
        feedInt(b);
        feedInt(c);
        feedInt(d);
        feedInt(e);
        return reader.tapeSize;
    }

    private void feedInt(int four) {
        for (int shift = 24; shift >= 0; shift -= 8) {
            reader.addByte((four >>> shift) & 255);
        }
    }

    public int fault(int what) {
        if (!loaded || !within(what, 0, 1)) {
            return NONE;
        }
        return what == 0 ? reader.fault : reader.faultPlace;
    }

    public int type(int a, int b) {
        int size = 0;
        while (size < MOST_WORD && typedLetter(a, b, size) != 0) {
            if (typedLetter(a, b, size) > ALPHABET) {
                return NONE;
            }
            size++;
        }
        typed.clear();
        for (int i = 0; i < size; i++) {
            typed.add(typedLetter(a, b, i) - 1);
        }
        return size;
    }

    private static int typedLetter(int a, int b, int i) {
        int six = MOST_WORD / 2;
        return (i < six ? a >>> (5 * i) : b >>> (5 * (i - six))) & 31;
    }

    // ---- the TEXT

    public int load(int n) {
        if (!within(n, 0, reader.tapeSize)) {
            return refused(BAD_NUMBER);
        }
        loaded = true;
        spare.begin();
        reader.begin(n);
        reader.head(spare);
        for (int i = 0; i <= n && reader.more(); i++) {
            if (reader.line()) {
                if (done(spare) < 0) {
                    reader.fail(Reader.CALL_REFUSED);
                } else {
                    reader.next();
                }
            }
        }
        if (reader.fault != 0) {
            return refused(FAULTY);
        }
        History old = history;
        history = spare;
        spare = old;
        return given(history.count);
    }

    /** Does the LINE that the reader has read; below 0 if it is refused. */
    private int done(History h) {
        switch (reader.verb) {
            case Reader.LINE_PUT: return h.putWord(reader.one, reader.word);
            case Reader.LINE_CUT: return h.cutOut(reader.one, reader.two);
            case Reader.LINE_WAIT: return h.passTime(reader.one);
            case Reader.LINE_UNDO: return h.stepBack();
            case Reader.LINE_REDO: return h.stepOn();
            case Reader.LINE_GO: return h.goTo(reader.one);
            case Reader.LINE_NAME: return h.nameHere(reader.word.key());
            case Reader.LINE_WITHDRAW: return h.takeBack(reader.one);
            case Reader.LINE_RESTORE: return h.giveBack(reader.one);
            case Reader.LINE_CARRY: return h.carryOver(reader.one);
            case Reader.LINE_MERGE: return h.mergeIn(reader.one);
            case Reader.LINE_PRUNE: return h.pruneTo(reader.one);
            default: return -BAD_NUMBER;
        }
    }

    // ---- what there is

    public int many(int what) {
        switch (what) {
            case 0: return given(history.count);
            case 1: return given(history.here.number);
            case 2: return given(history.now);
            case 3: return given(history.here.letters);
            case 4: return given(history.rowOfHere().size);
            case 5: return given(history.names.size);
            case 6: return given(history.leaves());
            case 7: return given(history.groups());
            case 8: return given(Long.bitCount(history.rowOfHere().outOfForce()));
            case 9: return given(history.visits.count);
            default: return refused(BAD_NUMBER);
        }
    }

    public int letter(int state, int place) {
        if (place < 0) {
            return refused(BAD_NUMBER);
        }
        State s = history.at(state);
        if (s == null) {
            return refused(NO_STATE);
        }
        if (place >= s.letters) {
            return refused(THERE_IS_NONE);
        }
        return given(history.letterAt(s, place));
    }

    public int state(int state, int what) {
        if (!within(what, 0, 9)) {
            return refused(BAD_NUMBER);
        }
        State s = history.at(state);
        if (s == null) {
            return refused(NO_STATE);
        }
        switch (what) {
            case 0: return given(s.parent == null ? NONE : s.parent.number);
            case 1: return given(s.act);
            case 2: return given(s.time);
            case 3: return given(s.place);
            case 4: return given(s.size);
            case 5: return given(s.first == null ? NONE : s.first.number);
            case 6: return given(s.children);
            case 7: return given(s.depth);
            case 8: return given(s.letters);
            default: return given(history.names.countOf(s.number));
        }
    }

    public int child(int state, int i) {
        if (i < 0) {
            return refused(BAD_NUMBER);
        }
        State s = history.at(state);
        if (s == null) {
            return refused(NO_STATE);
        }
        State found = history.childOf(s, i);
        return found == null ? refused(THERE_IS_NONE) : given(found.number);
    }

    public int force(int state, int at) {
        State s = history.at(state);
        State end = history.at(at);
        if (s == null || end == null) {
            return refused(NO_STATE);
        }
        Row row = history.row;
        row.walk(end);
        if ((row.acts & s.bit()) == 0) {
            return refused(THERE_IS_NONE);
        }
        return given((row.force & s.bit()) != 0 ? 1 : 0);
    }

    public int blame(int place, int what) {
        if (place < 0 || !within(what, 0, 2)) {
            return refused(BAD_NUMBER);
        }
        int id = history.here.idAt(place);
        if (id == NONE) {
            return refused(THERE_IS_NONE);
        }
        switch (what) {
            case 0: return given(Row.putter(id));
            case 1: return given(Row.order(id));
            default: return given(history.rowOfHere().placeOf(id));
        }
    }

    public int row(int i, int what) {
        if (i < 0 || !within(what, 0, 4)) {
            return refused(BAD_NUMBER);
        }
        Row row = history.rowOfHere();
        int id = row.idAt(i);
        if (id == NONE) {
            return refused(THERE_IS_NONE);
        }
        switch (what) {
            case 0: return given(history.glyph(id));
            case 1: return given(Row.putter(id));
            case 2: return given(row.seesAt(i) ? 1 : 0);
            case 3: return given(row.cutsInForce(id));
            default: return given(row.lastCut(id));
        }
    }

    public int visit(int i, int what) {
        if (!within(i, 0, MOST_LOG - 1) || !within(what, 0, 1)) {
            return refused(BAD_NUMBER);
        }
        if (i >= history.visits.count) {
            return refused(THERE_IS_NONE);
        }
        return given(what == 0 ? history.visits.stateAt(i) : history.visits.timeAt(i));
    }

    public int named() {
        int key = typed.key();
        if (key == 0) {
            return refused(BAD_NUMBER);
        }
        int i = history.names.indexOf(key);
        return i < 0 ? refused(THERE_IS_NONE) : given(history.names.ownerAt(i));
    }

    public int leans(int state, int other) {
        State s = history.at(state);
        State o = history.at(other);
        if (s == null || o == null) {
            return refused(NO_STATE);
        }
        State later = s.depth >= o.depth ? s : o;
        State earlier = later == s ? o : s;
        if (!later.edits() || !earlier.edits() || !History.onLine(earlier, later)) {
            return refused(THERE_IS_NONE);
        }
        return given((later.base & earlier.bit()) != 0 ? 1 : 0);
    }

    // ---- what is done

    public int put(int place) {
        return answered(history.putWord(place, typed));
    }

    public int cut(int place, int many) {
        return answered(history.cutOut(place, many));
    }

    public int wait(int ticks) {
        return answered(history.passTime(ticks));
    }

    public int undo() {
        return answered(history.stepBack());
    }

    public int redo() {
        return answered(history.stepOn());
    }

    public int go(int state) {
        return answered(history.goTo(state));
    }

    public int name() {
        return answered(history.nameHere(typed.key()));
    }

    public int unname() {
        return answered(history.dropName(typed.key()));
    }

    public int withdraw(int state) {
        return answered(history.takeBack(state));
    }

    public int restore(int state) {
        return answered(history.giveBack(state));
    }

    public int carry(int state) {
        return answered(history.carryOver(state));
    }

    public int merge(int state) {
        return answered(history.mergeIn(state));
    }

    public int prune(int many) {
        return answered(history.pruneTo(many));
    }

    // ---- on paper

    public int common(int state, int other) {
        State s = history.at(state);
        State o = history.at(other);
        if (s == null || o == null) {
            return refused(NO_STATE);
        }
        return given(History.nearest(s, o).number);
    }

    public int way(int state, int other, int i) {
        if (i < 0) {
            return refused(BAD_NUMBER);
        }
        State s = history.at(state);
        State o = history.at(other);
        if (s == null || o == null) {
            return refused(NO_STATE);
        }
        State found = History.onWay(s, o, i);
        return found == null ? refused(THERE_IS_NONE) : given(found.number);
    }

    public int between(int state, int other, int what) {
        if (!within(what, 0, 3)) {
            return refused(BAD_NUMBER);
        }
        State s = history.at(state);
        State o = history.at(other);
        if (s == null || o == null) {
            return refused(NO_STATE);
        }
        switch (what) {
            case 0: return given(history.keptOf(s, o));
            case 1: return given(s.letters - history.keptOf(s, o));
            case 2: return given(o.letters - history.keptOf(s, o));
            default: return given(history.firstDifference(s, o));
        }
    }

    public int least(int state, int other) {
        State s = history.at(state);
        State o = history.at(other);
        if (s == null || o == null) {
            return refused(NO_STATE);
        }
        return given(s.letters + o.letters - 2 * history.longestCommon(s, o));
    }

    public int merges(int state, int what) {
        if (!within(what, 0, 2)) {
            return refused(BAD_NUMBER);
        }
        return answered(history.mergeOnPaper(state, what));
    }

    public int tell(int what) {
        if (!within(what, 0, 2)) {
            return refused(BAD_NUMBER);
        }
        toldSize = 0;
        if (what == 0) {
            tellDocument();
        } else if (what == 1) {
            tellLine();
        } else {
            tellNames();
        }
        return given(toldSize);
    }

    private void tellDocument() {
        State here = history.here;
        for (int i = 0; i < here.letters; i++) {
            tellByte('a' + history.letterAt(here, i));
        }
    }

    private void tellLine() {
        Row row = history.rowOfHere();
        for (int d = 0; d < row.length; d++) {
            if (d > 0) {
                tellByte('<');
            }
            tellNumber(row.numberAt(d));
        }
    }

    private void tellNames() {
        Names names = history.names;
        for (int i = 0; i < names.size; i++) {
            if (i > 0) {
                tellByte(' ');
            }
            for (int key = names.keyAt(i); key > 0; key >>>= 5) {
                tellByte('a' - 1 + (key & 31));
            }
            tellByte('=');
            tellNumber(names.ownerAt(i));
        }
    }

    /** A number of one digit or two, as that of a STATE is. */
    private void tellNumber(int number) {
        if (number >= 10) {
            tellByte('0' + number / 10);
        }
        tellByte('0' + number % 10);
    }

    private void tellByte(int sign) {
        if (toldSize >= 0 && toldSize < told.length) {
            told[toldSize] = sign;
            toldSize++;
        }
    }

    public int out(int i) {
        if (i < 0) {
            return refused(BAD_NUMBER);
        }
        return i >= toldSize || i >= told.length ? refused(THERE_IS_NONE) : given(told[i]);
    }

    public int leaning(int state, int what) {
        if (!within(what, 0, 3)) {
            return refused(BAD_NUMBER);
        }
        State s = history.at(state);
        if (s == null) {
            return refused(NO_STATE);
        }
        Row row = history.rowOfHere();
        if ((row.acts & s.bit()) == 0) {
            return refused(ELSEWHERE);
        }
        long leaning = row.leaningOn(s);
        switch (what) {
            case 0: return given(Long.bitCount(leaning));
            case 1: return given(Long.bitCount(leaning & row.force));
            case 2: return given(history.lettersOfHereBy(leaning));
            default:
                row.look(row.force & ~leaning);
                return given(row.seen);
        }
    }

    public int find(int what) {
        if (!within(what, 0, 2) || typed.size == 0) {
            return refused(BAD_NUMBER);
        }
        if (what == 1) {
            return given(history.statesWith(typed));
        }
        int found = what == 0 ? history.leastWith(typed) : history.placeIn(history.here, typed);
        return found == NONE ? refused(THERE_IS_NONE) : given(found);
    }

    public int first() {
        State s = history.nextToGo();
        return s == null ? refused(THERE_IS_NONE) : given(s.number);
    }

    public int twin(int state) {
        State s = history.at(state);
        if (s == null) {
            return refused(NO_STATE);
        }
        int found = history.twinOf(s);
        return found == NONE ? refused(THERE_IS_NONE) : given(found);
    }

    public int back(int many) {
        if (!within(many, 1, MOST_STATES)) {
            return refused(BAD_NUMBER);
        }
        State s = history.behind(many);
        return s == null ? refused(THERE_IS_NONE) : given(s.number);
    }

    /** Letters one behind the other, each 0 to 25. */
    private static final class Word {
        private final int[] letters = new int[MOST_START];
        private int size;

        void clear() {
            size = 0;
        }

        void add(int letter) {
            if (size >= 0 && size < letters.length) {
                letters[size] = letter;
                size++;
            }
        }

        int at(int i) {
            return i >= 0 && i < size && i < letters.length ? letters[i] : NONE;
        }

        /** A word of 1 to 6 letters as one number, five bits each; any other one as 0. */
        int key() {
            if (!within(size, 1, MOST_NAME)) {
                return 0;
            }
            int key = 0;
            for (int i = size - 1; i >= 0; i--) {
                key = key << 5 | (at(i) + 1);
            }
            return key;
        }
    }

    /** One STATE; its History makes it once and uses it again when its number is free. */
    private static final class State {
        private final int number;
        /** The letters that a CUT took. */
        private final int[] took = new int[MOST_WORD];
        /** The letters of its DOCUMENT: a STATE never changes, so they are kept. */
        private final int[] document = new int[MOST_LETTERS];
        private boolean there;
        private State parent;
        /** The first STATE of its GROUP. */
        private State first;
        private int act;
        private int time;
        private int place;
        private int size;
        private int depth;
        private int children;
        private int letters;
        /** The number of its last VISIT, and of the last one of it and of all below it. */
        private int visited;
        private int newest;
        /** The letter behind which a PUT came. */
        private int anchor;
        /** The STATES that a WITHDRAWN or a GIVEN BACK names, a bit each. */
        private long named;
        /** The STATES on which it leans, those on which these do left out, a bit each. */
        private long base;

        State(int number) {
            this.number = number;
        }

        void open(State above, int kind, int begin, int many) {
            there = true;
            parent = above;
            first = this;
            act = kind;
            time = 0;
            place = begin;
            size = many;
            depth = above == null ? 0 : above.depth + 1;
            children = 0;
            letters = 0;
            visited = 0;
            newest = 0;
            anchor = NONE;
            named = 0;
            base = 0;
        }

        long bit() {
            return 1L << number;
        }

        boolean edits() {
            return act == PUT || act == CUT;
        }

        /** The START puts letters in, too. */
        boolean brings() {
            return act == PUT || act == NONE;
        }

        int idAt(int i) {
            return i >= 0 && i < letters && i < document.length ? document[i] : NONE;
        }

        void addId(int id) {
            if (letters >= 0 && letters < document.length) {
                document[letters] = id;
                letters++;
            }
        }

        int tookAt(int i) {
            return act == CUT && i >= 0 && i < size && i < took.length ? took[i] : NONE;
        }

        boolean tookIt(int id) {
            for (int i = 0; i < size; i++) {
                if (id != NONE && tookAt(i) == id) {
                    return true;
                }
            }
            return false;
        }
    }

    /** The LINE of a STATE and its ROW, laid anew for each that asks. */
    private static final class Row {
        private final State[] path = new State[MOST_STATES];
        private final int[] ids = new int[MOST_ROW];
        private final boolean[] sees = new boolean[MOST_ROW];
        private final boolean[] gone = new boolean[MOST_ROW];
        /** Of each letter the one right behind it; the last one is the very beginning. */
        private final int[] next = new int[MOST_ROW + 1];
        private int length;
        private int size;
        private int seen;
        /** The PUTS and CUTS of the LINE, and those of them that are IN FORCE, a bit each. */
        private long acts;
        private long force;

        /** A letter's own number, from who put it in and which of its letters it is. */
        static int id(int by, int order) {
            return by == 0 ? order : MOST_START + (by - 1) * MOST_WORD + order;
        }

        static int putter(int id) {
            return id < MOST_START ? 0 : (id - MOST_START) / MOST_WORD + 1;
        }

        static int order(int id) {
            return id < MOST_START ? id : (id - MOST_START) % MOST_WORD;
        }

        private static boolean isId(int id) {
            return id >= 0 && id < MOST_ROW;
        }

        void lay(State at) {
            walk(at);
            next[MOST_ROW] = NONE;
            for (int d = 0; d < length; d++) {
                if (path[d] != null && path[d].brings()) {
                    link(path[d]);
                }
            }
            size = 0;
            int id = next[MOST_ROW];
            for (int i = 0; i < MOST_ROW && isId(id); i++) {
                ids[i] = id;
                size = i + 1;
                id = next[id];
            }
            look(force);
        }

        /** The LINE alone, and what is IN FORCE: the last ACT that names one decides. */
        void walk(State at) {
            long known = 0;
            long off = 0;
            acts = 0;
            length = Math.min(at.depth + 1, MOST_STATES);
            for (State s = at; s != null; s = s.parent) {
                if (s.depth >= 0 && s.depth < MOST_STATES) {
                    path[s.depth] = s;
                }
                if (s.edits()) {
                    acts |= s.bit();
                }
                if (s.act == WITHDRAWN) {
                    off |= s.named & ~known;
                }
                known |= s.named;
            }
            force = acts & ~off;
        }

        private void link(State s) {
            int before = isId(s.anchor) ? s.anchor : MOST_ROW;
            int behind = next[before];
            for (int k = 0; k < s.size; k++) {
                int id = id(s.number, k);
                if (isId(id)) {
                    next[before] = id;
                    before = id;
                }
            }
            next[before] = behind;
        }

        /** What one SEES of the ROW, were these IN FORCE. */
        void look(long inForce) {
            for (int i = 0; i < MOST_ROW; i++) {
                gone[i] = false;
            }
            for (int d = 0; d < length; d++) {
                State s = path[d];
                for (int k = 0; s != null && (inForce & s.bit()) != 0 && k < s.size; k++) {
                    int id = s.tookAt(k);
                    if (isId(id)) {
                        gone[id] = true;
                    }
                }
            }
            seen = 0;
            for (int i = 0; i < size && i < MOST_ROW; i++) {
                int id = ids[i];
                int by = putter(id);
                sees[i] = isId(id) && !gone[id] && (by == 0 || (inForce >>> by & 1L) != 0);
                seen += sees[i] ? 1 : 0;
            }
        }

        int numberAt(int d) {
            return d >= 0 && d < length && d < MOST_STATES && path[d] != null ? path[d].number : 0;
        }

        int idAt(int i) {
            return i >= 0 && i < size && i < MOST_ROW ? ids[i] : NONE;
        }

        boolean seesAt(int i) {
            return i >= 0 && i < size && i < MOST_ROW && sees[i];
        }

        int placeOf(int id) {
            for (int i = 0; i < size; i++) {
                if (id != NONE && idAt(i) == id) {
                    return i;
                }
            }
            return NONE;
        }

        /** How many letters one SEES up to this one, it too; NONE if the ROW has it not. */
        int seenUpTo(int id) {
            int last = placeOf(id);
            if (last == NONE) {
                return NONE;
            }
            int many = 0;
            for (int i = 0; i <= last; i++) {
                many += seesAt(i) ? 1 : 0;
            }
            return many;
        }

        long outOfForce() {
            return acts & ~force;
        }

        int cutsInForce(int id) {
            int many = 0;
            for (int d = 0; d < length; d++) {
                State s = path[d];
                if (s != null && (force & s.bit()) != 0 && s.tookIt(id)) {
                    many++;
                }
            }
            return many;
        }

        int lastCut(int id) {
            for (int d = length - 1; d >= 0; d--) {
                if (path[d] != null && path[d].tookIt(id)) {
                    return path[d].number;
                }
            }
            return NONE;
        }

        /** LEANING of one of the LINE; one leans only on earlier ones, so one walk down does. */
        long leaningOn(State s) {
            long found = s.bit();
            for (int d = 0; d < length; d++) {
                State t = path[d];
                if (t != null && t.depth > s.depth && (t.base & found) != 0) {
                    found |= t.bit();
                }
            }
            return found;
        }

        /** One of the LINE and all on which it leans, or one of these does. */
        long groundOf(State s) {
            long found = s.bit();
            for (State t = s; t != null; t = t.parent) {
                if ((found & t.bit()) != 0) {
                    found |= t.base;
                }
            }
            return found;
        }
    }

    /** The NAMES, as they came; each word as its key. */
    private static final class Names {
        private final int[] keys = new int[MOST_NAMES];
        private final int[] owners = new int[MOST_NAMES];
        private int size;

        int indexOf(int key) {
            for (int i = 0; i < size && i < MOST_NAMES; i++) {
                if (keys[i] == key) {
                    return i;
                }
            }
            return NONE;
        }

        int keyAt(int i) {
            return i >= 0 && i < size && i < MOST_NAMES ? keys[i] : 0;
        }

        int ownerAt(int i) {
            return i >= 0 && i < size && i < MOST_NAMES ? owners[i] : 0;
        }

        int countOf(int number) {
            int many = 0;
            for (int i = 0; i < size && i < MOST_NAMES; i++) {
                many += owners[i] == number ? 1 : 0;
            }
            return many;
        }

        void own(int key, int number) {
            int i = indexOf(key);
            if (i == NONE) {
                i = size;
            }
            if (i >= 0 && i < MOST_NAMES) {
                keys[i] = key;
                owners[i] = number;
                size = Math.max(size, i + 1);
            }
        }

        void drop(int index) {
            for (int i = Math.max(index, 0); i + 1 < size && i + 1 < MOST_NAMES; i++) {
                keys[i] = keys[i + 1];
                owners[i] = owners[i + 1];
            }
            size = Math.max(size - 1, 0);
        }
    }

    /** How many VISITS there were, and the LOG of the latest ones. */
    private static final class Visits {
        private final int[] states = new int[MOST_LOG];
        private final int[] times = new int[MOST_LOG];
        private final int[] keptStates = new int[MOST_LOG];
        private final int[] keptTimes = new int[MOST_LOG];
        private int count;
        private int keptCount;

        void add(State s, int time) {
            int i = count % MOST_LOG;
            if (i >= 0 && i < MOST_LOG) {
                states[i] = s.number;
                times[i] = time;
            }
            count++;
            s.visited = count;
        }

        /** Where the i-th VISIT stands, the latest first. */
        private int slot(int i) {
            return (count - 1 - i) % MOST_LOG;
        }

        int stateAt(int i) {
            int slot = slot(i);
            return slot >= 0 && slot < MOST_LOG ? states[slot] : NONE;
        }

        int timeAt(int i) {
            int slot = slot(i);
            return slot >= 0 && slot < MOST_LOG ? times[slot] : NONE;
        }

        /** Its number may be another STATE's soon. */
        void forget(int state) {
            for (int i = 0; i < MOST_LOG; i++) {
                if (states[i] == state) {
                    states[i] = NONE;
                }
            }
        }

        void keep() {
            System.arraycopy(states, 0, keptStates, 0, MOST_LOG);
            System.arraycopy(times, 0, keptTimes, 0, MOST_LOG);
            keptCount = count;
        }

        void giveBack() {
            System.arraycopy(keptStates, 0, states, 0, MOST_LOG);
            System.arraycopy(keptTimes, 0, times, 0, MOST_LOG);
            count = keptCount;
        }
    }

    /** TEST, as steps over a heap of truths, each step behind what it takes from the heap. */
    private static final class JoinTest {
        /** A step takes four bytes of a TEXT or more. */
        private static final int MOST_STEPS = MOST_TEXT / 4 + 1;
        private static final int NOT = 18;
        private static final int AND = 19;
        private static final int OR = 20;
        private static final int RELATIONS = 3;
        private static final int LESS = 0;
        private static final int SAME = 1;
        private static final int GAP = 0;
        private static final int SIZE = 1;
        private static final int KIND = 2;
        private static final int ALIKE = 3;
        private static final int NEAR = 4;
        private static final int LONG = 5;
        private static final int VALUES = 6;

        private final int[] steps = new int[MOST_STEPS];
        private final int[] numbers = new int[MOST_STEPS];
        private final int[] values = new int[VALUES];
        private int size;

        void clear() {
            size = 0;
        }

        void usual() {
            clear();
            compare(GAP, LESS, 3);
            compare(ALIKE, SAME, 1);
            add(AND, 0);
            compare(NEAR, SAME, 1);
            add(AND, 0);
            compare(SIZE, LESS, 8);
            add(AND, 0);
        }

        void compare(int value, int relation, int number) {
            add(value * RELATIONS + relation, number);
        }

        void add(int step, int number) {
            if (size >= 0 && size < MOST_STEPS) {
                steps[size] = step;
                numbers[size] = number;
                size++;
            }
        }

        void set(int value, int to) {
            if (value >= 0 && value < VALUES) {
                values[value] = to;
            }
        }

        /** The heap is the bits of one number: [ and not nest far less deep than it has bits. */
        boolean holds() {
            long heap = 0;
            for (int i = 0; i < size && i < MOST_STEPS; i++) {
                int step = steps[i];
                if (step == NOT) {
                    heap ^= 1L;
                } else if (step == AND) {
                    heap = heap >>> 1 & (heap | ~1L);
                } else if (step == OR) {
                    heap = heap >>> 1 | (heap & 1L);
                } else {
                    int asked = step / RELATIONS;
                    int value = asked >= 0 && asked < VALUES ? values[asked] : 0;
                    int relation = step % RELATIONS;
                    boolean truth = relation == LESS ? value < numbers[i]
                            : relation == SAME ? value == numbers[i] : value > numbers[i];
                    heap = heap << 1 | (truth ? 1L : 0L);
                }
            }
            return (heap & 1L) != 0;
        }
    }

    /** All STATES, and what is done with them. What is refused is told as a STATUS with a minus. */
    private static final class History {
        private final State start = new State(0);
        private final State[] states = new State[MOST_STATES];
        /** Which letter of the alphabet each letter is. */
        private final int[] glyphs = new int[MOST_ROW];
        /** Whose letters a STATE's letters stand for, while one is MERGED. */
        private final int[] stands = new int[MOST_STATES];
        private final int[] lengths = new int[MOST_LETTERS + 1];
        private final Row row = new Row();
        private final Names names = new Names();
        private final Visits visits = new Visits();
        private final JoinTest join = new JoinTest();
        private final Word carried = new Word();
        private State here = start;
        private int now;
        private int count;
        private int leftOut;

        History() {
            states[0] = start;
            for (int i = 1; i < MOST_STATES; i++) {
                states[i] = new State(i);
            }
            begin();
        }

        /** All anew, with a START without letters. */
        void begin() {
            for (int i = 0; i < MOST_STATES; i++) {
                if (states[i] != null) {
                    states[i].open(null, NONE, NONE, 0);
                    states[i].there = i == 0;
                }
            }
            here = start;
            now = 0;
            count = 1;
            names.size = 0;
            visits.count = 0;
            join.usual();
        }

        void startWith(Word word) {
            start.size = word.size;
            start.letters = 0;
            for (int i = 0; i < word.size; i++) {
                int id = Row.id(0, i);
                setGlyph(id, word.at(i));
                start.addId(id);
            }
        }

        State at(int number) {
            if (number < 0 || number >= MOST_STATES) {
                return null;
            }
            State s = states[number];
            return s != null && s.there ? s : null;
        }

        int glyph(int id) {
            return id >= 0 && id < MOST_ROW ? glyphs[id] : NONE;
        }

        private void setGlyph(int id, int letter) {
            if (id >= 0 && id < MOST_ROW) {
                glyphs[id] = letter;
            }
        }

        /** NONE behind the last one. */
        int letterAt(State s, int place) {
            return glyph(s.idAt(place));
        }

        Row rowOfHere() {
            row.lay(here);
            return row;
        }

        // ---- what there is

        int leaves() {
            int many = 0;
            for (int i = 0; i < MOST_STATES; i++) {
                State s = at(i);
                many += s != null && s.children == 0 ? 1 : 0;
            }
            return many;
        }

        /** Each GROUP of the LINE has its first STATE in the LINE. */
        int groups() {
            int many = 0;
            for (State s = here; s != null; s = s.parent) {
                many += s != start && s.first == s ? 1 : 0;
            }
            return many;
        }

        State childOf(State s, int i) {
            if (i < 0 || i >= s.children) {
                return null;
            }
            findNewest();
            State found = null;
            int bound = visits.count + 1;
            for (int k = 0; k <= i; k++) {
                found = newestChild(s, bound);
                if (found == null) {
                    return null;
                }
                bound = found.newest;
            }
            return found;
        }

        private void findNewest() {
            for (int i = 0; i < MOST_STATES; i++) {
                if (states[i] != null) {
                    states[i].newest = 0;
                }
            }
            for (int i = 0; i < MOST_STATES; i++) {
                State s = at(i);
                for (State t = s; t != null; t = t.parent) {
                    t.newest = Math.max(t.newest, s.visited);
                }
            }
        }

        /** Of the children whose newest VISIT is ahead of the bound the LATEST. */
        private State newestChild(State s, int bound) {
            State found = null;
            for (int i = 0; i < MOST_STATES; i++) {
                State t = at(i);
                if (t != null && t.parent == s && t.newest < bound
                        && (found == null || t.newest > found.newest)) {
                    found = t;
                }
            }
            return found;
        }

        static boolean onLine(State s, State at) {
            State t = at;
            while (t != null && t.depth > s.depth) {
                t = t.parent;
            }
            return t == s;
        }

        /** The one of the LINE at that depth. */
        private static State above(State at, int depth) {
            State t = at;
            while (t != null && t.depth > depth) {
                t = t.parent;
            }
            return t;
        }

        int lettersOfHereBy(long putters) {
            int many = 0;
            for (int i = 0; i < here.letters; i++) {
                many += (putters >>> Row.putter(here.idAt(i)) & 1L) != 0 ? 1 : 0;
            }
            return many;
        }

        // ---- what is done

        private void moveTo(State s) {
            here = s;
            visits.add(s, now);
        }

        /** A new STATE below HERE, which is HERE then; null if there are too many. */
        private State grow(int act, int place, int size) {
            int number = 0;
            while (number < MOST_STATES && at(number) != null) {
                number++;
            }
            if (number >= MOST_STATES || states[number] == null) {
                return null;
            }
            State s = states[number];
            s.open(here, act, place, size);
            s.time = now;
            here.children++;
            count++;
            here = s;
            visits.add(s, now);
            return s;
        }

        int putWord(int place, Word word) {
            if (place < 0 || place > here.letters || word.size == 0) {
                return -BAD_NUMBER;
            }
            if (count >= MOST_STATES) {
                return -ONE_TOO_MANY;
            }
            if (here.letters + word.size > MOST_LETTERS) {
                return -TOO_LONG;
            }
            State from = here;
            State s = grow(PUT, place, word.size);
            if (s == null) {
                return -ONE_TOO_MANY;
            }
            s.anchor = from.idAt(place - 1);
            s.base = baseOf(s.anchor);
            for (int i = 0; i < place; i++) {
                s.addId(from.idAt(i));
            }
            for (int k = 0; k < word.size; k++) {
                int id = Row.id(s.number, k);
                setGlyph(id, word.at(k));
                s.addId(id);
            }
            for (int i = place; i < from.letters; i++) {
                s.addId(from.idAt(i));
            }
            joinGroup(s, from);
            return s.number;
        }

        int cutOut(int place, int many) {
            if (place < 0 || !within(many, 1, MOST_WORD)) {
                return -BAD_NUMBER;
            }
            if (place > here.letters - many) {
                return -THERE_IS_NONE;
            }
            if (count >= MOST_STATES) {
                return -ONE_TOO_MANY;
            }
            State from = here;
            State s = grow(CUT, place, many);
            if (s == null) {
                return -ONE_TOO_MANY;
            }
            for (int i = 0; i < from.letters; i++) {
                int id = from.idAt(i);
                int k = i - place;
                if (k >= 0 && k < many && k < MOST_WORD) {
                    s.took[k] = id;
                    s.base |= baseOf(id);
                } else {
                    s.addId(id);
                }
            }
            joinGroup(s, from);
            return s.number;
        }

        /** Who put a letter in, as a bit; on the START nothing leans. */
        private static long baseOf(int id) {
            return id == NONE || Row.putter(id) == 0 ? 0L : 1L << Row.putter(id);
        }

        private void joinGroup(State s, State from) {
            if (!from.edits() || from.first == null) {
                return;
            }
            join.set(JoinTest.GAP, s.time - from.time);
            join.set(JoinTest.SIZE, from.depth - from.first.depth + 1);
            join.set(JoinTest.KIND, s.act);
            join.set(JoinTest.ALIKE, s.act == from.act ? 1 : 0);
            join.set(JoinTest.NEAR, isNear(s, from) ? 1 : 0);
            join.set(JoinTest.LONG, s.size);
            if (join.holds()) {
                s.first = from.first;
            }
        }

        private static boolean isNear(State s, State from) {
            int spot = from.act == PUT ? from.place + from.size : from.place;
            if (s.act == PUT) {
                return s.place == spot;
            }
            return s.place + s.size == spot || from.act == CUT && s.place == spot;
        }

        int passTime(int ticks) {
            if (!within(ticks, 0, MOST_WAIT)) {
                return -BAD_NUMBER;
            }
            now += ticks;
            return now;
        }

        /** Where HERE would be behind so many undo(); null if there are not so many. */
        State behind(int many) {
            State s = here;
            for (int i = 0; i < many && s != null; i++) {
                s = s.first == null ? null : s.first.parent;
            }
            return s;
        }

        int stepBack() {
            State s = behind(1);
            if (s == null) {
                return -THERE_IS_NONE;
            }
            moveTo(s);
            return s.number;
        }

        int stepOn() {
            State s = childOf(here, 0);
            if (s == null) {
                return -THERE_IS_NONE;
            }
            State below = childOf(s, 0);
            for (int i = 0; i < MOST_STATES && below != null && below.first == s.first; i++) {
                s = below;
                below = childOf(s, 0);
            }
            moveTo(s);
            return s.number;
        }

        int goTo(int number) {
            State s = at(number);
            if (s == null) {
                return -NO_STATE;
            }
            if (s == here) {
                return -SO_ALREADY;
            }
            int steps = wayLength(here, s);
            moveTo(s);
            return steps;
        }

        int nameHere(int key) {
            if (key == 0) {
                return -BAD_NUMBER;
            }
            int i = names.indexOf(key);
            if (i == NONE && names.size >= MOST_NAMES) {
                return -ONE_TOO_MANY;
            }
            if (i != NONE && names.ownerAt(i) == here.number) {
                return -SO_ALREADY;
            }
            names.own(key, here.number);
            return names.size;
        }

        int dropName(int key) {
            if (key == 0) {
                return -BAD_NUMBER;
            }
            int i = names.indexOf(key);
            if (i == NONE) {
                return -THERE_IS_NONE;
            }
            names.drop(i);
            return names.size;
        }

        int takeBack(int number) {
            State s = at(number);
            if (s == null) {
                return -NO_STATE;
            }
            row.lay(here);
            if ((row.acts & s.bit()) == 0) {
                return -ELSEWHERE;
            }
            if ((row.force & s.bit()) == 0) {
                return -SO_ALREADY;
            }
            long off = row.leaningOn(s) & row.force;
            return turn(WITHDRAWN, off, row.force & ~off);
        }

        int giveBack(int number) {
            State s = at(number);
            if (s == null) {
                return -NO_STATE;
            }
            row.lay(here);
            if ((row.acts & s.bit()) == 0) {
                return -ELSEWHERE;
            }
            if ((row.force & s.bit()) != 0) {
                return -SO_ALREADY;
            }
            long on = row.groundOf(s) & ~row.force;
            return turn(GIVEN_BACK, on, row.force | on);
        }

        /** A new STATE that names some, behind which the others given are IN FORCE. */
        private int turn(int act, long named, long inForce) {
            if (count >= MOST_STATES) {
                return -ONE_TOO_MANY;
            }
            row.look(inForce);
            if (row.seen > MOST_LETTERS) {
                return -TOO_LONG;
            }
            State s = grow(act, NONE, Long.bitCount(named));
            if (s == null) {
                return -ONE_TOO_MANY;
            }
            s.named = named;
            for (int i = 0; i < row.size; i++) {
                if (row.seesAt(i)) {
                    s.addId(row.idAt(i));
                }
            }
            return s.number;
        }

        int carryOver(int number) {
            State s = at(number);
            if (s == null) {
                return -NO_STATE;
            }
            if (!s.edits() || onLine(s, here)) {
                return -ELSEWHERE;
            }
            standForThemselves();
            return carryOne(s);
        }

        private void standForThemselves() {
            for (int i = 0; i < MOST_STATES; i++) {
                stands[i] = i;
            }
        }

        private int standOf(int id) {
            int by = Row.putter(id);
            return id >= 0 && by >= 0 && by < MOST_STATES ? Row.id(stands[by], Row.order(id)) : NONE;
        }

        private int carryOne(State s) {
            if (s.act == CUT) {
                int from = firstTaken(s);
                int many = takenFrom(s, from);
                return many == 0 ? -NOT_SO_AT_HERE : cutOut(from, many);
            }
            int place = 0;
            if (s.anchor != NONE) {
                row.lay(here);
                place = row.seenUpTo(standOf(s.anchor));
            }
            if (place == NONE) {
                return -NOT_SO_AT_HERE;
            }
            carried.clear();
            for (int k = 0; k < s.size; k++) {
                carried.add(glyph(Row.id(s.number, k)));
            }
            return putWord(place, carried);
        }

        /** The PLACE of the first LETTER at HERE that a CUT takes; NONE if it takes none. */
        private int firstTaken(State cut) {
            for (int i = 0; i < here.letters; i++) {
                if (takes(cut, here.idAt(i))) {
                    return i;
                }
            }
            return NONE;
        }

        /** How many it takes from there on; 0 if they are not side by side. */
        private int takenFrom(State cut, int place) {
            int many = 0;
            for (int i = Math.max(place, 0); i < here.letters; i++) {
                if (takes(cut, here.idAt(i))) {
                    if (i != place + many) {
                        return 0;
                    }
                    many++;
                }
            }
            return many;
        }

        private boolean takes(State cut, int id) {
            for (int k = 0; k < cut.size; k++) {
                if (id != NONE && standOf(cut.tookAt(k)) == id) {
                    return true;
                }
            }
            return false;
        }

        /** How many were CARRIED; how many were not stands in leftOut then. */
        int mergeIn(int number) {
            State end = at(number);
            if (end == null) {
                return -NO_STATE;
            }
            if (onLine(end, here)) {
                return -SO_ALREADY;
            }
            row.walk(here);
            long own = row.acts;
            row.walk(end);
            long wanted = row.force & ~own;
            standForThemselves();
            leftOut = 0;
            int many = 0;
            for (int d = 1; d <= end.depth; d++) {
                State s = above(end, d);
                if (s != null && (wanted & s.bit()) != 0) {
                    int made = carryOne(s);
                    if (made >= 0 && s.number < MOST_STATES) {
                        stands[s.number] = made;
                        many++;
                    } else {
                        leftOut++;
                    }
                }
            }
            return many;
        }

        /** Merges, asks and takes all back. */
        int mergeOnPaper(int number, int what) {
            State before = here;
            visits.keep();
            int many = mergeIn(number);
            if (many < 0) {
                return many;
            }
            int answer = what == 0 ? many : what == 1 ? leftOut : here.letters;
            for (int i = 0; i < many && here != before && here.parent != null; i++) {
                State gone = here;
                here = gone.parent;
                remove(gone);
            }
            visits.giveBack();
            return answer;
        }

        private void remove(State leaf) {
            leaf.there = false;
            if (leaf.parent != null) {
                leaf.parent.children--;
            }
            leaf.parent = null;
            visits.forget(leaf.number);
            count--;
        }

        /** The STATE that is PRUNED next; null if none can go. */
        State nextToGo() {
            State found = null;
            for (int i = 1; i < MOST_STATES; i++) {
                State s = at(i);
                if (s != null && s != here && s.children == 0 && names.countOf(i) == 0
                        && (found == null || s.visited < found.visited)) {
                    found = s;
                }
            }
            return found;
        }

        int pruneTo(int many) {
            if (!within(many, 1, MOST_STATES)) {
                return -BAD_NUMBER;
            }
            int gone = 0;
            while (count > many && gone < MOST_STATES) {
                State s = nextToGo();
                if (s == null) {
                    return gone;
                }
                remove(s);
                gone++;
            }
            return gone;
        }

        // ---- on paper

        static State nearest(State a, State b) {
            State s = a;
            while (s.parent != null && !onLine(s, b)) {
                s = s.parent;
            }
            return s;
        }

        private static int wayLength(State a, State b) {
            return a.depth + b.depth - 2 * nearest(a, b).depth;
        }

        static State onWay(State a, State b, int i) {
            int up = a.depth - nearest(a, b).depth;
            int whole = wayLength(a, b);
            if (i < 0 || i > whole) {
                return null;
            }
            return i <= up ? above(a, a.depth - i) : above(b, b.depth - (whole - i));
        }

        int keptOf(State a, State b) {
            int many = 0;
            for (int i = 0; i < a.letters; i++) {
                for (int k = 0; k < b.letters; k++) {
                    many += a.idAt(i) == b.idAt(k) ? 1 : 0;
                }
            }
            return many;
        }

        int firstDifference(State a, State b) {
            int most = Math.max(a.letters, b.letters);
            for (int i = 0; i < most; i++) {
                if (letterAt(a, i) != letterAt(b, i)) {
                    return i;
                }
            }
            return NONE;
        }

        int longestCommon(State a, State b) {
            for (int k = 0; k <= MOST_LETTERS; k++) {
                lengths[k] = 0;
            }
            int width = Math.min(b.letters, MOST_LETTERS);
            for (int i = 0; i < a.letters; i++) {
                int letter = letterAt(a, i);
                int corner = 0;
                for (int k = 1; k <= width; k++) {
                    int old = lengths[k];
                    lengths[k] = letter == letterAt(b, k - 1)
                            ? corner + 1 : Math.max(old, lengths[k - 1]);
                    corner = old;
                }
            }
            return lengths[Math.max(width, 0)];
        }

        int placeIn(State s, Word word) {
            for (int i = 0; i + word.size <= s.letters; i++) {
                int same = 0;
                while (same < word.size && letterAt(s, i + same) == word.at(same)) {
                    same++;
                }
                if (same == word.size) {
                    return i;
                }
            }
            return NONE;
        }

        int leastWith(Word word) {
            for (int i = 0; i < MOST_STATES; i++) {
                State s = at(i);
                if (s != null && placeIn(s, word) != NONE) {
                    return i;
                }
            }
            return NONE;
        }

        int statesWith(Word word) {
            int many = 0;
            for (int i = 0; i < MOST_STATES; i++) {
                State s = at(i);
                many += s != null && placeIn(s, word) != NONE ? 1 : 0;
            }
            return many;
        }

        int twinOf(State s) {
            for (int i = 0; i < MOST_STATES; i++) {
                State t = at(i);
                if (t != null && t != s && firstDifference(s, t) == NONE) {
                    return i;
                }
            }
            return NONE;
        }
    }

    /** The tape, and what reads a TEXT from it, TOKEN by TOKEN, up to its first FAULT. */
    private static final class Reader {
        private static final int NO_TOKEN = 1;
        private static final int MISPLACED = 2;
        private static final int LONG_WORD = 4;
        private static final int NESTED = 6;
        private static final int CALL_REFUSED = 7;

        private static final int LINE_PUT = 0;
        private static final int LINE_CUT = 1;
        private static final int LINE_WAIT = 2;
        private static final int LINE_UNDO = 3;
        private static final int LINE_REDO = 4;
        private static final int LINE_GO = 5;
        private static final int LINE_NAME = 6;
        private static final int LINE_WITHDRAW = 7;
        private static final int LINE_RESTORE = 8;
        private static final int LINE_CARRY = 9;
        private static final int LINE_MERGE = 10;
        private static final int LINE_PRUNE = 11;

        private static final int THE_END = 0;
        private static final int A_WORD = 1;
        private static final int A_NUMBER = 2;
        private static final int A_SIGN = 3;
        private static final int MOST_DIGITS = 3;

        private final int[] tape = new int[MOST_TEXT];
        private final Word word = new Word();
        private int tapeSize;
        private int length;
        /** Of the TOKEN that is looked at: its kind, where it begins and ends, its number or sign. */
        private int kind;
        private int from;
        private int end;
        private int value;
        private int fault;
        private int faultPlace;
        /** Of the LINE that was read. */
        private int verb;
        private int one;
        private int two;

        void addByte(int b) {
            if (tapeSize >= 0 && tapeSize < MOST_TEXT) {
                tape[tapeSize] = b;
                tapeSize++;
            }
        }

        private int byteAt(int i) {
            return i >= 0 && i < length && i < MOST_TEXT ? tape[i] : NONE;
        }

        boolean fail(int why) {
            fault = why;
            faultPlace = from;
            return false;
        }

        boolean more() {
            return fault == 0 && kind != THE_END;
        }

        /** The first n bytes are the TEXT, and the tape is empty. */
        void begin(int n) {
            length = Math.min(n, tapeSize);
            tapeSize = 0;
            fault = 0;
            faultPlace = NONE;
            end = 0;
            next();
        }

        // ---- TOKENS

        /** Looks at the next TOKEN; false if none begins so. */
        boolean next() {
            from = end;
            while (from < length && (byteAt(from) == ' ' || byteAt(from) == '\n')) {
                from++;
            }
            end = from;
            value = byteAt(from);
            if (value == NONE) {
                kind = THE_END;
                return true;
            }
            if (isSmall(value)) {
                kind = A_WORD;
                while (end < length && isSmall(byteAt(end))) {
                    end++;
                }
                return true;
            }
            if (isDigit(value)) {
                kind = A_NUMBER;
                value = 0;
                while (end < length && end - from <= MOST_DIGITS && isDigit(byteAt(end))) {
                    value = value * 10 + byteAt(end) - '0';
                    end++;
                }
                return end - from <= MOST_DIGITS || fail(NO_TOKEN);
            }
            kind = A_SIGN;
            end++;
            return value >= ';' && value <= '>' || value == '[' || value == ']' || fail(NO_TOKEN);
        }

        private static boolean isSmall(int b) {
            return b >= 'a' && b <= 'z';
        }

        private static boolean isDigit(int b) {
            return b >= '0' && b <= '9';
        }

        private boolean is(String name) {
            if (kind != A_WORD || end - from != name.length()) {
                return false;
            }
            for (int i = 0; i < name.length(); i++) {
                if (byteAt(from + i) != name.charAt(i)) {
                    return false;
                }
            }
            return true;
        }

        private boolean isSign(int sign) {
            return kind == A_SIGN && value == sign;
        }

        // ---- the head

        void head(History h) {
            if (fault == 0 && is("start") && next() && spelled(MOST_START) && closed()) {
                h.startWith(word);
                next();
            }
            if (fault == 0 && is("join") && next()) {
                h.join.clear();
                if (test(h.join, 0) && closed()) {
                    next();
                }
            }
        }

        private boolean closed() {
            return isSign(';') || fail(MISPLACED);
        }

        private boolean spelled(int most) {
            if (kind != A_WORD) {
                return fail(MISPLACED);
            }
            if (end - from > most) {
                return fail(LONG_WORD);
            }
            word.clear();
            for (int i = from; i < end; i++) {
                word.add(byteAt(i) - 'a');
            }
            return next();
        }

        /** TEST within so many of not and [, as are the next two. */
        private boolean test(JoinTest join, int depth) {
            boolean fine = side(join, depth);
            for (int i = 0; i < MOST_TEXT && fine && is("or"); i++) {
                fine = next() && side(join, depth);
                join.add(JoinTest.OR, 0);
            }
            return fine;
        }

        private boolean side(JoinTest join, int depth) {
            boolean fine = fact(join, depth);
            for (int i = 0; i < MOST_TEXT && fine && is("and"); i++) {
                fine = next() && fact(join, depth);
                join.add(JoinTest.AND, 0);
            }
            return fine;
        }

        private boolean fact(JoinTest join, int depth) {
            boolean not = is("not");
            if (!not && !isSign('[')) {
                return comparison(join, asked());
            }
            if (depth >= MOST_NESTED) {
                return fail(NESTED);
            }
            if (!next()) {
                return false;
            }
            if (not) {
                boolean fine = fact(join, depth + 1);
                join.add(JoinTest.NOT, 0);
                return fine;
            }
            if (!test(join, depth + 1)) {
                return false;
            }
            return isSign(']') ? next() : fail(MISPLACED);
        }

        private boolean comparison(JoinTest join, int asked) {
            if (asked == NONE) {
                return fail(MISPLACED);
            }
            if (!next()) {
                return false;
            }
            if (kind != A_SIGN || value < '<' || value > '>') {
                return fail(MISPLACED);
            }
            int relation = value - '<';
            if (!next()) {
                return false;
            }
            if (kind != A_NUMBER) {
                return fail(MISPLACED);
            }
            join.compare(asked, relation, value);
            return next();
        }

        private int asked() {
            return is("gap") ? JoinTest.GAP
                    : is("size") ? JoinTest.SIZE
                    : is("kind") ? JoinTest.KIND
                    : is("same") ? JoinTest.ALIKE
                    : is("near") ? JoinTest.NEAR
                    : is("long") ? JoinTest.LONG
                    : NONE;
        }

        // ---- the LINES

        /** Reads a LINE up to its ; and leaves that to be looked at, for the call comes at it. */
        boolean line() {
            verb = verbHere();
            if (verb == NONE) {
                return fail(MISPLACED);
            }
            boolean fine = next();
            if (fine && verb != LINE_UNDO && verb != LINE_REDO && verb != LINE_NAME) {
                one = value;
                fine = kind == A_NUMBER ? next() : fail(MISPLACED);
            }
            if (fine && verb == LINE_CUT) {
                two = value;
                fine = kind == A_NUMBER ? next() : fail(MISPLACED);
            }
            if (fine && verb == LINE_PUT) {
                fine = spelled(MOST_WORD);
            }
            if (fine && verb == LINE_NAME) {
                fine = spelled(MOST_NAME);
            }
            return fine && closed();
        }

        private int verbHere() {
            return is("put") ? LINE_PUT
                    : is("cut") ? LINE_CUT
                    : is("wait") ? LINE_WAIT
                    : is("undo") ? LINE_UNDO
                    : is("redo") ? LINE_REDO
                    : is("go") ? LINE_GO
                    : is("name") ? LINE_NAME
                    : is("withdraw") ? LINE_WITHDRAW
                    : is("restore") ? LINE_RESTORE
                    : is("carry") ? LINE_CARRY
                    : is("merge") ? LINE_MERGE
                    : is("prune") ? LINE_PRUNE
                    : NONE;
        }
    }
}
