/** All that one can ask of an object without changing it, as one text; its STATUS, its FAULT and its tape are left out. */
final class Picture {
    private final StringBuilder told = new StringBuilder();
    private final BranchedText x;

    private Picture(BranchedText x) {
        this.x = x;
    }

    static String of(BranchedText x) {
        Picture p = new Picture(x);
        p.outAndWord();
        p.whole();
        p.states();
        p.rowOfHere();
        p.visits();
        return p.told.toString();
    }

    private void add(String what, int value) {
        told.append(what).append('=').append(value).append(' ');
    }

    private void outAndWord() {
        for (int i = 0; i < 200; i++) {
            int b = x.out(i);
            if (b < 0) {
                break;
            }
            add("out" + i, b);
        }
        add("named", x.named());
        for (int what = 0; what < 3; what++) {
            add("find" + what, x.find(what));
        }
    }

    private void whole() {
        for (int what = 0; what < 10; what++) {
            add("many" + what, x.many(what));
        }
        add("first", x.first());
        add("back", x.back(1));
    }

    private void states() {
        int left = x.many(0);
        for (int s = 0; s < 48 && left > 0; s++) {
            int size = x.state(s, 8);
            if (size < 0) {
                continue;
            }
            left--;
            for (int what = 0; what < 10; what++) {
                add("state" + s + "." + what, x.state(s, what));
            }
            for (int i = 0; i < size; i++) {
                add("letter", x.letter(s, i));
            }
            add("child", x.child(s, 0));
            add("force", x.force(s, x.many(1)));
        }
    }

    private void rowOfHere() {
        int size = x.many(4);
        for (int i = 0; i < size; i++) {
            for (int what = 0; what < 5; what++) {
                add("row" + i + "." + what, x.row(i, what));
            }
        }
    }

    private void visits() {
        int size = Math.min(x.many(9), 40);
        for (int i = 0; i < size; i++) {
            add("visit" + i, x.visit(i, 0));
            add("at", x.visit(i, 1));
        }
    }
}
