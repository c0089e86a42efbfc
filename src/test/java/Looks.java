/**
 * All that can be seen of an object, part by part: some looks change what they look at, so each
 * part is for an object of its own, and stays within its 512 calls.
 */
final class Looks {
    static final int PARTS = 9;

    private final ThreeThrough x;
    private final StringBuilder seen = new StringBuilder();

    private Looks(ThreeThrough x) {
        this.x = x;
    }

    static String at(ThreeThrough x, int part) {
        Looks looks = new Looks(x);
        switch (part) {
            case 0 -> looks.countsAndPeople();
            case 1 -> looks.lawsAndDays();
            case 2 -> looks.shelves(0, 3);
            case 3 -> looks.shelves(3, 6);
            case 4 -> looks.changesUndone();
            case 5 -> looks.changesDoneAgain();
            case 6 -> looks.tape();
            case 7 -> looks.image();
            default -> looks.bodies();
        }
        return looks.seen.toString();
    }

    private void see(long answer) {
        seen.append(answer).append(' ');
    }

    private void countsAndPeople() {
        for (int what = 0; what < 8; what++) see(x.count(what));
        for (int p = 0; p < 12; p++) {
            for (int what = 0; what < 7; what++) see(x.of(p, what));
        }
        for (int g = 0; g < 3; g++) see(x.of(g, 10));
        for (int i = 0; i < 24; i++) see(x.trace(i));
    }

    private void lawsAndDays() {
        for (int time : new int[] {0, 9, 59}) {
            for (int gate = 0; gate < 3; gate++) {
                for (int p : new int[] {0, 1, 2, 11}) {
                    see(x.may(p, 10 * gate, time));
                    see(x.may(p, 10 * gate + 1, time));
                }
                see(x.comes(10 * gate, time));
                see(x.comes(10 * gate + 2, time));
            }
        }
        for (int way = 0; way < 3; way++) {
            for (int what = 0; what < 3; what++) see(x.sum(way, what));
        }
    }

    private void shelves(int from, int to) {
        for (int shelf = from; shelf < to; shelf++) {
            for (int k = 0; k < 8; k++) see(x.taken(shelf, k));
            for (int i = 0; i <= 60; i++) see(x.element(shelf, i));
            // What is kept of this number tells the sort of the row.
            see(x.put(shelf, 0, 0x123456789L));
            see(x.element(shelf, 0));
        }
    }

    private void valuesThatChange() {
        for (int p = 0; p < 3; p++) {
            see(x.of(p, 1));
            see(x.of(p, 2));
        }
        see(x.of(0, 10));
        see(x.of(1, 10));
    }

    private void changesUndone() {
        for (int i = 0; i < 41 && x.count(5) > 0; i++) {
            see(x.undo());
            valuesThatChange();
        }
        see(x.undo());
    }

    private void changesDoneAgain() {
        for (int i = 0; i < 41; i++) {
            int left = x.redo();
            see(left);
            if (left == ThreeThrough.STATE) return;
            valuesThatChange();
        }
    }

    private void tape() {
        see(x.law(1));
        for (int time = 0; time < 60; time++) see(x.comes(0, time));
        see(x.comes(12, 7));
    }

    private void image() {
        see(x.back());
        see(x.count(2));
        see(x.count(3));
        for (int p = 0; p < 12; p++) {
            for (int what = 3; what < 7; what++) see(x.of(p, what));
        }
    }

    /** Each BODY's KIND, and that it runs with its own number. */
    private void bodies() {
        for (int body = 0; body < 50; body++) {
            see(x.keep(5, body));
            see(x.taken(5, 0));
            see(x.act(body, 3, 5));
        }
    }
}
