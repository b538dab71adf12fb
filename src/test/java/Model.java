import java.util.ArrayList;
import java.util.HashMap;
import java.util.HashSet;
import java.util.LinkedHashMap;
import java.util.List;
import java.util.Map;
import java.util.Set;
import java.util.TreeMap;

/** The document's words in their slowest form, to be held against the class; it shares no code with it. */
final class Model {
    static final int NONE = -1;

    /** A letter: one object for each that was put in. */
    static final class Letter {
        final State by;
        final int order;
        final int glyph;

        Letter(State by, int order, int glyph) {
            this.by = by;
            this.order = order;
            this.glyph = glyph;
        }
    }

    /** A STATE, which never changes once it has come. */
    static final class State {
        int number;
        State parent;
        int act = NONE;
        int time;
        int place = NONE;
        State first = this;
        Letter behind;
        List<Letter> brought = new ArrayList<>();
        List<Letter> took = new ArrayList<>();
        Set<State> named = new HashSet<>();
        List<Letter> row = new ArrayList<>();
        List<Letter> document = new ArrayList<>();

        boolean edits() {
            return act == 0 || act == 1;
        }

        int size() {
            return act == 1 ? took.size() : act >= 2 ? named.size() : brought.size();
        }

        List<State> line() {
            List<State> line = new ArrayList<>();
            for (State s = this; s != null; s = s.parent) {
                line.add(0, s);
            }
            return line;
        }

        boolean inForce(State s) {
            for (State t = this; t != null; t = t.parent) {
                if (t.act >= 2 && t.named.contains(s)) {
                    return t.act == 3;
                }
            }
            return true;
        }

        boolean sees(Letter l) {
            if (l.by.parent != null && !inForce(l.by)) {
                return false;
            }
            for (State s : line()) {
                if (s.act == 1 && inForce(s) && s.took.contains(l)) {
                    return false;
                }
            }
            return true;
        }

        void look() {
            document.clear();
            for (Letter l : row) {
                if (sees(l)) {
                    document.add(l);
                }
            }
        }

        String text() {
            StringBuilder b = new StringBuilder();
            for (Letter l : document) {
                b.append((char) ('a' + l.glyph));
            }
            return b.toString();
        }
    }

    /** A VISIT. */
    static final class Visit {
        final State state;
        final int time;

        Visit(State state, int time) {
            this.state = state;
            this.time = time;
        }
    }

    interface Test {
        boolean holds(Map<String, Integer> values);
    }

    /** What a call answers that is refused, or a FAULT of a TEXT. */
    static final class Refused extends RuntimeException {
        private static final long serialVersionUID = 1L;
        final int why;
        final int place;

        Refused(int why, int place) {
            super(null, null, false, false);
            this.why = why;
            this.place = place;
        }
    }

    // what a history is
    List<State> states = new ArrayList<>();
    State here;
    int now;
    Map<String, State> names = new LinkedHashMap<>();
    List<Visit> visits = new ArrayList<>();
    Test test;
    // what is beside it
    List<Integer> tape = new ArrayList<>();
    String typed = "";
    String out = "";
    int status;
    int fault = NONE;
    int faultPlace = NONE;
    int leftOut;

    Model() {
        anew("");
    }

    void anew(String word) {
        states = new ArrayList<>();
        names = new LinkedHashMap<>();
        visits = new ArrayList<>();
        test = null;
        now = 0;
        here = new State();
        for (int i = 0; i < word.length(); i++) {
            here.brought.add(new Letter(here, i, word.charAt(i) - 'a'));
        }
        here.row.addAll(here.brought);
        here.look();
        states.add(here);
    }

    static void refuse(boolean condition, int why) {
        if (condition) {
            throw new Refused(why, NONE);
        }
    }

    State at(int number) {
        for (State s : states) {
            if (s.number == number) {
                return s;
            }
        }
        throw new Refused(2, NONE);
    }

    List<State> byNumber() {
        TreeMap<Integer, State> sorted = new TreeMap<>();
        for (State s : states) {
            sorted.put(s.number, s);
        }
        return new ArrayList<>(sorted.values());
    }

    List<State> childrenOf(State s) {
        List<State> found = new ArrayList<>();
        for (State t : states) {
            if (t.parent == s) {
                found.add(t);
            }
        }
        return found;
    }

    int lastVisit(State s) {
        for (int i = visits.size() - 1; i >= 0; i--) {
            if (visits.get(i).state == s) {
                return i;
            }
        }
        return NONE;
    }

    int lastVisitBelow(State s) {
        int last = lastVisit(s);
        for (State t : childrenOf(s)) {
            last = Math.max(last, lastVisitBelow(t));
        }
        return last;
    }

    List<State> latestFirst(State s) {
        List<State> found = childrenOf(s);
        found.sort((a, b) -> Integer.compare(lastVisitBelow(b), lastVisitBelow(a)));
        return found;
    }

    void visit(State s) {
        here = s;
        visits.add(new Visit(s, now));
    }

    State come(State s) {
        refuse(states.size() >= 48, 3);
        s.number = 0;
        Set<Integer> used = new HashSet<>();
        for (State t : states) {
            used.add(t.number);
        }
        while (used.contains(s.number)) {
            s.number++;
        }
        s.parent = here;
        s.time = now;
        s.row = new ArrayList<>(here.row);
        if (s.act == 0) {
            s.behind = s.place == 0 ? null : here.document.get(s.place - 1);
            s.row.addAll(s.behind == null ? 0 : s.row.indexOf(s.behind) + 1, s.brought);
        }
        s.look();
        refuse(s.document.size() > 120, 6);
        if (s.edits() && here.edits() && joins(s)) {
            s.first = here.first;
        }
        states.add(s);
        visit(s);
        return s;
    }

    boolean joins(State s) {
        State p = s.parent;
        int members = 0;
        for (State t : p.line()) {
            members += t.first == p.first ? 1 : 0;
        }
        Map<String, Integer> values = new HashMap<>();
        values.put("gap", s.time - p.time);
        values.put("size", members);
        values.put("kind", s.act);
        values.put("same", s.act == p.act ? 1 : 0);
        boolean near;
        if (s.act == 0) {
            near = p.act == 0 ? s.place == p.place + p.size() : s.place == p.place;
        } else {
            int end = s.place + s.size();
            near = p.act == 1 ? end == p.place || s.place == p.place : end == p.place + p.size();
        }
        values.put("near", near ? 1 : 0);
        values.put("long", s.size());
        if (test != null) {
            return test.holds(values);
        }
        return values.get("gap") < 3 && values.get("same") == 1 && values.get("near") == 1 && values.get("size") < 8;
    }

    State putWord(int place, String word) {
        refuse(place < 0 || place > here.document.size() || word.isEmpty(), 1);
        State s = new State();
        s.act = 0;
        s.place = place;
        for (int i = 0; i < word.length(); i++) {
            s.brought.add(new Letter(s, i, word.charAt(i) - 'a'));
        }
        return come(s);
    }

    State cutOut(int place, int many) {
        refuse(many < 1 || many > 12 || place < 0, 1);
        refuse((long) place + many > here.document.size(), 5);
        State s = new State();
        s.act = 1;
        s.place = place;
        s.took.addAll(here.document.subList(place, place + many));
        return come(s);
    }

    State groupStart(State s) {
        return s.first;
    }

    static boolean leansOn(State later, State earlier) {
        if (later.act == 1) {
            for (Letter l : later.took) {
                if (l.by == earlier) {
                    return true;
                }
            }
            return false;
        }
        return later.act == 0 && later.behind != null && later.behind.by == earlier;
    }

    Set<State> leaningOf(State s) {
        Set<State> found = new HashSet<>();
        found.add(s);
        boolean more = true;
        while (more) {
            more = false;
            for (State t : here.line()) {
                for (State u : here.line()) {
                    if (t.edits() && u.edits() && found.contains(u) && leansOn(t, u)) {
                        more |= found.add(t);
                    }
                }
            }
        }
        return found;
    }

    Set<State> groundOf(State s) {
        Set<State> found = new HashSet<>();
        found.add(s);
        boolean more = true;
        while (more) {
            more = false;
            for (State t : here.line()) {
                for (State u : here.line()) {
                    if (t.edits() && u.edits() && found.contains(t) && leansOn(t, u)) {
                        more |= found.add(u);
                    }
                }
            }
        }
        return found;
    }

    State turn(int state, int act) {
        State s = at(state);
        refuse(!s.edits() || !here.line().contains(s), 7);
        refuse(here.inForce(s) != (act == 2), 4);
        State made = new State();
        made.act = act;
        for (State t : act == 2 ? leaningOf(s) : groundOf(s)) {
            if (here.inForce(t) == (act == 2)) {
                made.named.add(t);
            }
        }
        return come(made);
    }

    State carryOver(State s, Map<State, State> stands) {
        if (s.act == 0) {
            int place = 0;
            if (s.behind != null) {
                Letter l = standOf(s.behind, stands);
                int end = here.row.indexOf(l);
                refuse(end < 0, 10);
                for (int i = 0; i <= end; i++) {
                    place += here.sees(here.row.get(i)) ? 1 : 0;
                }
            }
            StringBuilder word = new StringBuilder();
            for (Letter l : s.brought) {
                word.append((char) ('a' + l.glyph));
            }
            return putWord(place, word.toString());
        }
        List<Integer> places = new ArrayList<>();
        for (Letter l : s.took) {
            int i = here.document.indexOf(standOf(l, stands));
            if (i >= 0) {
                places.add(i);
            }
        }
        places.sort(Integer::compare);
        refuse(places.isEmpty(), 10);
        for (int i = 1; i < places.size(); i++) {
            refuse(places.get(i) != places.get(i - 1) + 1, 10);
        }
        return cutOut(places.get(0), places.size());
    }

    static Letter standOf(Letter l, Map<State, State> stands) {
        return stands.containsKey(l.by) ? stands.get(l.by).brought.get(l.order) : l;
    }

    int mergeIn(State s) {
        refuse(here.line().contains(s), 4);
        List<State> own = here.line();
        Map<State, State> stands = new HashMap<>();
        int many = 0;
        leftOut = 0;
        for (State t : s.line()) {
            if (!own.contains(t) && t.edits() && s.inForce(t)) {
                try {
                    State made = carryOver(t, stands);
                    if (t.act == 0) {
                        stands.put(t, made);
                    }
                    many++;
                } catch (Refused r) {
                    leftOut++;
                }
            }
        }
        return many;
    }

    State nextToGo() {
        State found = null;
        for (State s : states) {
            if (s.parent != null && s != here && childrenOf(s).isEmpty() && !names.containsValue(s)
                    && (found == null || lastVisit(s) < lastVisit(found))) {
                found = s;
            }
        }
        return found;
    }

    List<State> wayOf(State a, State b) {
        List<State> up = a.line();
        List<State> down = b.line();
        int shared = 0;
        while (shared < up.size() && shared < down.size() && up.get(shared) == down.get(shared)) {
            shared++;
        }
        List<State> way = new ArrayList<>();
        for (int i = up.size() - 1; i >= shared - 1; i--) {
            way.add(up.get(i));
        }
        way.addAll(down.subList(shared, down.size()));
        return way;
    }

    // ---- the TEXT

    static final class Token {
        char kind;
        String text;
        int place;
    }

    List<Token> tokens;
    int token;

    static List<Token> split(String text) {
        List<Token> found = new ArrayList<>();
        int i = 0;
        while (i < text.length()) {
            char c = text.charAt(i);
            if (c == 10 || c == 32) {
                i++;
                continue;
            }
            Token t = new Token();
            t.place = i;
            int end = i + 1;
            if (c >= 'a' && c <= 'z') {
                t.kind = 'w';
                while (end < text.length() && text.charAt(end) >= 'a' && text.charAt(end) <= 'z') {
                    end++;
                }
            } else if (c >= '0' && c <= '9') {
                while (end < text.length() && text.charAt(end) >= '0' && text.charAt(end) <= '9') {
                    end++;
                }
                t.kind = end - i > 3 ? '?' : 'n';
            } else {
                t.kind = "<=>[];".indexOf(c) >= 0 ? 's' : '?';
            }
            t.text = text.substring(i, end);
            found.add(t);
            i = end;
        }
        Token last = new Token();
        last.kind = 'e';
        last.text = "";
        last.place = text.length();
        found.add(last);
        return found;
    }

    Token peek() {
        Token t = tokens.get(token);
        if (t.kind == '?') {
            throw new Refused(1, t.place);
        }
        return t;
    }

    boolean sees(String text) {
        return peek().text.equals(text) && peek().kind != 'e';
    }

    Token take(char kind) {
        Token t = peek();
        if (t.kind != kind) {
            throw new Refused(2, t.place);
        }
        token++;
        return t;
    }

    int number() {
        return Integer.parseInt(take('n').text);
    }

    String word(int most) {
        Token t = take('w');
        if (t.text.length() > most) {
            throw new Refused(4, t.place);
        }
        return t.text;
    }

    int sign(String text) {
        Token t = peek();
        if (!sees(text)) {
            throw new Refused(2, t.place);
        }
        token++;
        return t.place;
    }

    Test parseTest(int depth) {
        Test left = parseSide(depth);
        while (sees("or")) {
            token++;
            Test a = left;
            Test b = parseSide(depth);
            left = v -> a.holds(v) | b.holds(v);
        }
        return left;
    }

    Test parseSide(int depth) {
        Test left = parseFact(depth);
        while (sees("and")) {
            token++;
            Test a = left;
            Test b = parseFact(depth);
            left = v -> a.holds(v) & b.holds(v);
        }
        return left;
    }

    Test parseFact(int depth) {
        Token t = peek();
        if (sees("not") || sees("[")) {
            if (depth == 6) {
                throw new Refused(6, t.place);
            }
            token++;
            if (t.text.equals("not")) {
                Test a = parseFact(depth + 1);
                return v -> !a.holds(v);
            }
            Test a = parseTest(depth + 1);
            sign("]");
            return a;
        }
        if (!List.of("gap", "size", "kind", "same", "near", "long").contains(take('w').text)) {
            throw new Refused(2, t.place);
        }
        Token relation = peek();
        if (!sees("<") && !sees("=") && !sees(">")) {
            throw new Refused(2, relation.place);
        }
        token++;
        int number = number();
        String r = relation.text;
        return v -> {
            int value = v.get(t.text);
            return r.equals("<") ? value < number : r.equals("=") ? value == number : value > number;
        };
    }

    void run(String text) {
        tokens = split(text);
        token = 0;
        anew("");
        if (sees("start")) {
            token++;
            String word = word(40);
            sign(";");
            anew(word);
        }
        if (sees("join")) {
            token++;
            test = parseTest(0);
            sign(";");
        }
        while (peek().kind != 'e') {
            Token t = take('w');
            int a = 0;
            int b = 0;
            String word = "";
            switch (t.text) {
                case "put": a = number(); word = word(12); break;
                case "cut": a = number(); b = number(); break;
                case "name": word = word(6); break;
                case "undo": case "redo": break;
                case "wait": case "go": case "withdraw": case "restore": case "carry": case "merge": case "prune":
                    a = number();
                    break;
                default: throw new Refused(2, t.place);
            }
            int end = sign(";");
            try {
                act(t.text, a, b, word);
            } catch (Refused r) {
                throw new Refused(7, end);
            }
        }
    }

    int act(String call, int a, int b, String word) {
        switch (call) {
            case "put": return putWord(a, word).number;
            case "cut": return cutOut(a, b).number;
            case "wait":
                refuse(a < 0 || a > 999, 1);
                now += a;
                return now;
            case "undo":
                refuse(here.parent == null, 5);
                visit(here.first.parent);
                return here.number;
            case "redo": {
                List<State> below = latestFirst(here);
                refuse(below.isEmpty(), 5);
                State s = below.get(0);
                State group = s.first;
                while (!latestFirst(s).isEmpty() && latestFirst(s).get(0).first == group) {
                    s = latestFirst(s).get(0);
                }
                visit(s);
                return s.number;
            }
            case "go": {
                State s = at(a);
                refuse(s == here, 4);
                int steps = wayOf(here, s).size() - 1;
                visit(s);
                return steps;
            }
            case "name":
                refuse(word.isEmpty() || word.length() > 6, 1);
                refuse(names.size() >= 12 && !names.containsKey(word), 3);
                refuse(names.get(word) == here, 4);
                names.put(word, here);
                return names.size();
            case "unname":
                refuse(word.isEmpty() || word.length() > 6, 1);
                refuse(names.remove(word) == null, 5);
                return names.size();
            case "withdraw": return turn(a, 2).number;
            case "restore": return turn(a, 3).number;
            case "carry": {
                State s = at(a);
                refuse(!s.edits() || here.line().contains(s), 7);
                return carryOver(s, new HashMap<>()).number;
            }
            case "merge": return mergeIn(at(a));
            default: {
                refuse(a < 1 || a > 48, 1);
                int gone = 0;
                while (states.size() > a && nextToGo() != null) {
                    states.remove(nextToGo());
                    gone++;
                }
                return gone;
            }
        }
    }

    int load(int n) {
        refuse(n < 0 || n > tape.size(), 1);
        StringBuilder text = new StringBuilder();
        for (int i = 0; i < n; i++) {
            text.append((char) (int) tape.get(i));
        }
        tape.clear();
        List<State> oldStates = states;
        State oldHere = here;
        int oldNow = now;
        Map<String, State> oldNames = names;
        List<Visit> oldVisits = visits;
        Test oldTest = test;
        try {
            run(text.toString());
        } catch (Refused r) {
            states = oldStates;
            here = oldHere;
            now = oldNow;
            names = oldNames;
            visits = oldVisits;
            test = oldTest;
            fault = r.why;
            faultPlace = r.place;
            throw new Refused(9, NONE);
        }
        fault = 0;
        faultPlace = NONE;
        return states.size();
    }

    int merges(int state, int what) {
        refuse(what < 0 || what > 2, 1);
        State s = at(state);
        List<State> oldStates = new ArrayList<>(states);
        List<Visit> oldVisits = new ArrayList<>(visits);
        State oldHere = here;
        int many = mergeIn(s);
        int answer = what == 0 ? many : what == 1 ? leftOut : here.document.size();
        states = oldStates;
        visits = oldVisits;
        here = oldHere;
        return answer;
    }

    // ---- what there is

    int many(int what) {
        switch (what) {
            case 0: return states.size();
            case 1: return here.number;
            case 2: return now;
            case 3: return here.document.size();
            case 4: return here.row.size();
            case 5: return names.size();
            case 6: {
                int many = 0;
                for (State s : states) {
                    many += childrenOf(s).isEmpty() ? 1 : 0;
                }
                return many;
            }
            case 7: {
                Set<State> groups = new HashSet<>();
                for (State s : here.line()) {
                    if (s.parent != null) {
                        groups.add(s.first);
                    }
                }
                return groups.size();
            }
            case 8: {
                int many = 0;
                for (State s : here.line()) {
                    many += s.edits() && !here.inForce(s) ? 1 : 0;
                }
                return many;
            }
            case 9: return visits.size();
            default: throw new Refused(1, NONE);
        }
    }

    int letter(int state, int place) {
        refuse(place < 0, 1);
        State s = at(state);
        refuse(place >= s.document.size(), 5);
        return s.document.get(place).glyph;
    }

    int state(int state, int what) {
        refuse(what < 0 || what > 9, 1);
        State s = at(state);
        switch (what) {
            case 0: return s.parent == null ? NONE : s.parent.number;
            case 1: return s.act;
            case 2: return s.time;
            case 3: return s.place;
            case 4: return s.size();
            case 5: return s.first.number;
            case 6: return childrenOf(s).size();
            case 7: return s.line().size() - 1;
            case 8: return s.document.size();
            default: {
                int many = 0;
                for (State t : names.values()) {
                    many += t == s ? 1 : 0;
                }
                return many;
            }
        }
    }

    int child(int state, int i) {
        refuse(i < 0, 1);
        List<State> found = latestFirst(at(state));
        refuse(i >= found.size(), 5);
        return found.get(i).number;
    }

    int force(int state, int at) {
        State s = at(state);
        State end = at(at);
        refuse(!s.edits() || !end.line().contains(s), 5);
        return end.inForce(s) ? 1 : 0;
    }

    int blame(int place, int what) {
        refuse(place < 0 || what < 0 || what > 2, 1);
        refuse(place >= here.document.size(), 5);
        Letter l = here.document.get(place);
        return what == 0 ? l.by.number : what == 1 ? l.order : here.row.indexOf(l);
    }

    int row(int i, int what) {
        refuse(i < 0 || what < 0 || what > 4, 1);
        refuse(i >= here.row.size(), 5);
        Letter l = here.row.get(i);
        switch (what) {
            case 0: return l.glyph;
            case 1: return l.by.number;
            case 2: return here.sees(l) ? 1 : 0;
            default: {
                int many = 0;
                int last = NONE;
                for (State s : here.line()) {
                    if (s.act == 1 && s.took.contains(l)) {
                        many += here.inForce(s) ? 1 : 0;
                        last = s.number;
                    }
                }
                return what == 3 ? many : last;
            }
        }
    }

    int visit(int i, int what) {
        refuse(i < 0 || i > 39 || what < 0 || what > 1, 1);
        refuse(i >= visits.size(), 5);
        Visit v = visits.get(visits.size() - 1 - i);
        return what == 1 ? v.time : states.contains(v.state) ? v.state.number : NONE;
    }

    int named() {
        refuse(typed.isEmpty() || typed.length() > 6, 1);
        refuse(!names.containsKey(typed), 5);
        return names.get(typed).number;
    }

    int leans(int state, int other) {
        State s = at(state);
        State o = at(other);
        refuse(!s.edits() || !o.edits() || !s.line().contains(o) && !o.line().contains(s), 5);
        return s.line().contains(o) && leansOn(s, o) || o.line().contains(s) && leansOn(o, s) ? 1 : 0;
    }

    // ---- on paper

    int common(int state, int other) {
        State found = null;
        List<State> line = at(other).line();
        for (State s : at(state).line()) {
            found = line.contains(s) ? s : found;
        }
        return found == null ? NONE : found.number;
    }

    int way(int state, int other, int i) {
        refuse(i < 0, 1);
        List<State> way = wayOf(at(state), at(other));
        refuse(i >= way.size(), 5);
        return way.get(i).number;
    }

    int between(int state, int other, int what) {
        refuse(what < 0 || what > 3, 1);
        State s = at(state);
        State o = at(other);
        if (what == 3) {
            String a = s.text();
            String b = o.text();
            if (a.equals(b)) {
                return NONE;
            }
            int i = 0;
            while (i < a.length() && i < b.length() && a.charAt(i) == b.charAt(i)) {
                i++;
            }
            return i;
        }
        List<Letter> kept = new ArrayList<>(s.document);
        kept.retainAll(o.document);
        return what == 0 ? kept.size() : (what == 1 ? s : o).document.size() - kept.size();
    }

    int least(int state, int other) {
        String a = at(state).text();
        String b = at(other).text();
        int[][] d = new int[a.length() + 1][b.length() + 1];
        for (int i = 0; i <= a.length(); i++) {
            for (int k = 0; k <= b.length(); k++) {
                if (i == 0 || k == 0) {
                    d[i][k] = i + k;
                } else if (a.charAt(i - 1) == b.charAt(k - 1)) {
                    d[i][k] = d[i - 1][k - 1];
                } else {
                    d[i][k] = 1 + Math.min(d[i - 1][k], d[i][k - 1]);
                }
            }
        }
        return d[a.length()][b.length()];
    }

    int tell(int what) {
        refuse(what < 0 || what > 2, 1);
        List<String> parts = new ArrayList<>();
        if (what == 0) {
            out = here.text();
        } else if (what == 1) {
            for (State s : here.line()) {
                parts.add(String.valueOf(s.number));
            }
            out = String.join("<", parts);
        } else {
            for (Map.Entry<String, State> e : names.entrySet()) {
                parts.add(e.getKey() + "=" + e.getValue().number);
            }
            out = String.join(" ", parts);
        }
        return out.length();
    }

    int out(int i) {
        refuse(i < 0, 1);
        refuse(i >= out.length(), 5);
        return out.charAt(i);
    }

    int leaning(int state, int what) {
        refuse(what < 0 || what > 3, 1);
        State s = at(state);
        refuse(!s.edits() || !here.line().contains(s), 7);
        Set<State> found = leaningOf(s);
        int many = 0;
        if (what == 3) {
            State made = new State();
            made.act = 2;
            made.parent = here;
            made.row = here.row;
            for (State t : found) {
                if (here.inForce(t)) {
                    made.named.add(t);
                }
            }
            made.look();
            return made.document.size();
        }
        if (what == 2) {
            for (Letter l : here.document) {
                many += found.contains(l.by) ? 1 : 0;
            }
            return many;
        }
        for (State t : found) {
            many += what == 0 || here.inForce(t) ? 1 : 0;
        }
        return many;
    }

    int find(int what) {
        refuse(what < 0 || what > 2 || typed.isEmpty(), 1);
        if (what == 2) {
            int i = here.text().indexOf(typed);
            refuse(i < 0, 5);
            return i;
        }
        List<Integer> found = new ArrayList<>();
        for (State s : byNumber()) {
            if (s.text().contains(typed)) {
                found.add(s.number);
            }
        }
        refuse(what == 0 && found.isEmpty(), 5);
        return what == 0 ? found.get(0) : found.size();
    }

    int first() {
        State s = nextToGo();
        refuse(s == null, 5);
        return s.number;
    }

    int twin(int state) {
        State s = at(state);
        for (State t : byNumber()) {
            if (t != s && t.text().equals(s.text())) {
                return t.number;
            }
        }
        throw new Refused(5, NONE);
    }

    int back(int many) {
        refuse(many < 1 || many > 48, 1);
        State s = here;
        for (int i = 0; i < many; i++) {
            refuse(s.parent == null, 5);
            s = s.first.parent;
        }
        return s.number;
    }

    // ---- calls by name

    int type(int a, int b) {
        StringBuilder word = new StringBuilder();
        for (int i = 0; i < 12; i++) {
            int bits = (int) ((i < 6 ? (a & 0xffffffffL) / (1L << 5 * i) : (b & 0xffffffffL) / (1L << 5 * (i - 6))) % 32);
            if (bits == 0) {
                break;
            }
            if (bits > 26) {
                return NONE;
            }
            word.append((char) ('a' - 1 + bits));
        }
        typed = word.toString();
        return typed.length();
    }

    int feed(int... five) {
        if (tape.size() + 20 > 700) {
            return NONE;
        }
        for (int v : five) {
            for (int i = 3; i >= 0; i--) {
                tape.add(v >> 8 * i & 255);
            }
        }
        return tape.size();
    }

    int call(String name, int... a) {
        switch (name) {
            case "status": return status;
            case "feed": return feed(a);
            case "type": return type(a[0], a[1]);
            case "fault": return a[0] == 0 ? fault : a[0] == 1 ? faultPlace : NONE;
            default:
        }
        try {
            int answer = answer(name, a);
            status = 0;
            return answer;
        } catch (Refused r) {
            status = r.why;
            return NONE;
        }
    }

    private int answer(String name, int... a) {
        switch (name) {
            case "load": return load(a[0]);
            case "many": return many(a[0]);
            case "letter": return letter(a[0], a[1]);
            case "state": return state(a[0], a[1]);
            case "child": return child(a[0], a[1]);
            case "force": return force(a[0], a[1]);
            case "blame": return blame(a[0], a[1]);
            case "row": return row(a[0], a[1]);
            case "visit": return visit(a[0], a[1]);
            case "named": return named();
            case "leans": return leans(a[0], a[1]);
            case "common": return common(a[0], a[1]);
            case "way": return way(a[0], a[1], a[2]);
            case "between": return between(a[0], a[1], a[2]);
            case "least": return least(a[0], a[1]);
            case "merges": return merges(a[0], a[1]);
            case "tell": return tell(a[0]);
            case "out": return out(a[0]);
            case "leaning": return leaning(a[0], a[1]);
            case "find": return find(a[0]);
            case "first": return first();
            case "twin": return twin(a[0]);
            case "back": return back(a[0]);
            case "put": case "name": case "unname": return act(name, a.length > 0 ? a[0] : 0, 0, typed);
            case "cut": return act(name, a[0], a[1], "");
            default: return act(name, a.length > 0 ? a[0] : 0, 0, "");
        }
    }
}
