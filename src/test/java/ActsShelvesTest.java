/** Promises 30 to 39 (acts, shelves). */
public final class ActsShelvesTest {
    private static final Checks CHECKS = new Checks("ActsShelvesTest");
    private static final int BAD = ThreeThrough.BAD, FULL = ThreeThrough.FULL;
    private static final long MISSING = Long.MIN_VALUE;

    private ActsShelvesTest() {
    }

    public static void main(String[] args) {
        promise30Body();
        promise31Act();
        promise31ActLikeJava();
        promise32Trace();
        promise33Keep();
        promise34Row();
        promise35Put();
        promise36Element();
        promise37Shift();
        promise37ShiftRefusals();
        promise38Taken();
        promise39Count();
        CHECKS.end();
    }

    private static void due(String call, long got, long want) {
        CHECKS.due(call, got, want);
    }

    private static void promise30Body() {
        ThreeThrough x = new ThreeThrough();
        due("body(-1)", x.body(-1), BAD);
        due("body(8)", x.body(8), BAD);
        for (int i = 0; i < 50; i++) {
            due("body(" + i % 8 + ")", x.body(i % 8), i);
        }
        due("body(0), a 51st", x.body(0), FULL);
        due("body(8), a 51st", x.body(8), BAD);
        due("count(6)", x.count(6), 50);
        due("act(49, 0, 0)", x.act(49, 0, 0), 52);
    }

    private static void promise31Act() {
        ThreeThrough x = new ThreeThrough();
        for (int kind = 0; kind < 8; kind++) {
            x.body(kind);
        }
        due("KEEPER tells", x.act(0, 3, 5), 9);
        due("PLAIN counts", x.act(1, 1, 5), 18);
        due("LOOK tells", x.act(2, 3, 5), -17);
        due("BEST tells", x.act(5, 3, 5), -26);
        due("AWAY tells", x.act(7, 3, 5), 45);
        due("it wraps", x.act(0, 1, Integer.MAX_VALUE), -2);
        due("opens wraps", x.act(1, 0, Integer.MAX_VALUE), Integer.MIN_VALUE + 3);
        for (int[] none : new int[][] {{8, 0}, {-1, 0}, {0, 4}, {0, -1}}) {
            x.act(0, 3, 5);
            due("act(" + none[0] + ", " + none[1] + ", 1)", x.act(none[0], none[1], 1), 0);
            due("no TRACE then", x.trace(0), BAD);
            due("no bodies then", x.count(7), 0);
        }
    }

    private static void promise31ActLikeJava() {
        int[] xs = {0, 1, -1, 2, 5, 77, Integer.MAX_VALUE, Integer.MIN_VALUE, 0x40000000, -123456789};
        for (int kind = 0; kind < 8; kind++) {
            ThreeThrough one = new ThreeThrough();
            ThreeThrough later = new ThreeThrough();
            for (int i = 0; i < 37; i++) {
                later.body(0);
            }
            one.body(kind);
            later.body(kind);
            for (int act = 0; act < 4; act++) {
                for (int x : xs) {
                    likeJava(one, 0, kind, act, x);
                    likeJava(later, 37, kind, act, x);
                }
            }
        }
    }

    private static void likeJava(ThreeThrough object, int n, int kind, int act, int x) {
        ActsModel.TRACE.clear();
        int want = ActsModel.act(ActsModel.make(kind, n), act, x);
        due("KIND " + kind + " act " + act + " with " + x, object.act(n, act, x), want);
        if (x == 5) {
            due("bodies that ran", object.count(7), ActsModel.TRACE.size());
            for (int i = 0; i < ActsModel.TRACE.size(); i++) {
                due("KIND " + kind + " act " + act + " trace " + i, object.trace(i), ActsModel.TRACE.get(i));
            }
        }
    }

    private static void promise32Trace() {
        ThreeThrough x = new ThreeThrough();
        x.body(5);
        x.act(0, 3, 5);
        int[] want = {61, 2, 41, 30, 10, 1, 60, 40, 11, 1};
        for (int i = 0; i < want.length; i++) {
            due("trace(" + i + ")", x.trace(i), want[i]);
        }
        due("trace(10)", x.trace(10), BAD);
        due("trace(-1)", x.trace(-1), BAD);
        due("trace(24)", x.trace(24), BAD);
        due("trace(far)", x.trace(Integer.MAX_VALUE), BAD);
        x.act(0, 0, 5);
        due("of the latest act() alone", x.trace(0), 1);
        due("of the latest act() alone", x.trace(1), BAD);
    }

    private static void promise33Keep() {
        ThreeThrough x = new ThreeThrough();
        due("keep(0, 0), no such BODY", x.keep(0, 0), BAD);
        x.body(3);
        due("keep(-1, 0)", x.keep(-1, 0), BAD);
        due("keep(6, 0)", x.keep(6, 0), BAD);
        due("keep(0, 1)", x.keep(0, 1), BAD);
        due("keep(0, -2)", x.keep(0, -2), BAD);
        due("keep(5, 0)", x.keep(5, 0), 1);
        due("taken(5, 0)", x.taken(5, 0), 3);
        due("keep(5, 7) changes nothing", x.keep(5, 7), BAD);
        due("taken(5, 0)", x.taken(5, 0), 3);
        due("keep(5, -1)", x.keep(5, -1), 1);
        due("taken(5, 0)", x.taken(5, 0), -11);
        x.row(5, 0, 3);
        due("a BODY instead of a ROW", x.keep(5, 0), 1);
        due("put", x.put(5, 0, 1), -12);
        x.row(5, 0, 3);
        due("nothing instead of a ROW", x.keep(5, -1), 1);
        due("put", x.put(5, 0, 1), -11);
    }

    private static void promise34Row() {
        ThreeThrough x = new ThreeThrough();
        int[][] bad = {{-1, 0, 1}, {6, 0, 1}, {0, -1, 1}, {0, 5, 1}, {0, 0, 61}, {6, 0, -1}, {0, 5, -1}};
        for (int[] one : bad) {
            due("row(" + one[0] + ", " + one[1] + ", " + one[2] + ")", x.row(one[0], one[1], one[2]), BAD);
        }
        due("row(0, 0, -1)", x.row(0, 0, -1), -14);
        due("row(0, 4, MIN)", x.row(0, 4, Integer.MIN_VALUE), -14);
        due("nothing is there still", x.put(0, 0, 1), -11);
        due("row(0, 3, 60)", x.row(0, 3, 60), 1);
        due("put(0, 59, 8)", x.put(0, 59, 8), 1);
        due("row(0, 3, -1) changes nothing", x.row(0, 3, -1), -14);
        due("element(0, 59)", x.element(0, 59), 8);
        due("row(0, 3, 60) anew", x.row(0, 3, 60), 1);
        due("0 at first", x.element(0, 59), 0);
        due("row(0, 3, 0)", x.row(0, 3, 0), 1);
        due("no places", x.element(0, 0), MISSING);
    }

    private static void promise35Put() {
        ThreeThrough x = new ThreeThrough();
        due("put(-1, 0, 1)", x.put(-1, 0, 1), BAD);
        due("put(6, 0, 1)", x.put(6, 0, 1), BAD);
        due("put on nothing", x.put(0, 99, 1), -11);
        x.body(0);
        x.keep(0, 0);
        due("put on a BODY", x.put(0, 99, 1), -12);
        x.row(0, 3, 2);
        due("put(0, 2, 1)", x.put(0, 2, 1), -13);
        due("put(0, -1, 1)", x.put(0, -1, 1), -13);
        due("put(0, MIN, 1)", x.put(0, Integer.MIN_VALUE, 1), -13);
        due("put(0, MAX, 1)", x.put(0, Integer.MAX_VALUE, 1), -13);
        long v = 0x1234567887654321L;
        long[] kept = {0x21, 0x4321, (int) 0x87654321L, v, 1};
        long[] low = {-128, -32768, Integer.MIN_VALUE, Long.MIN_VALUE + 1, 1};
        long[] fed = {128, 32768, 1L << 31, Long.MIN_VALUE + 1, 1L << 40};
        for (int sort = 0; sort < 5; sort++) {
            x.row(sort, sort, 2);
            due("put(" + sort + ", 1, v)", x.put(sort, 1, v), 1);
            due("its lowest bits", x.element(sort, 1), kept[sort]);
            due("its neighbour", x.element(sort, 0), 0);
            due("put", x.put(sort, 1, fed[sort]), 1);
            due("its lowest bits with the sign", x.element(sort, 1), low[sort]);
            due("put 0", x.put(sort, 1, 0), 1);
            due("0", x.element(sort, 1), 0);
        }
    }

    private static void promise36Element() {
        ThreeThrough x = new ThreeThrough();
        due("element(-1, 0)", x.element(-1, 0), MISSING);
        due("element(6, 0)", x.element(6, 0), MISSING);
        due("element of nothing", x.element(0, 0), MISSING);
        x.body(0);
        x.keep(0, 0);
        due("element of a BODY", x.element(0, 0), MISSING);
        x.row(0, 0, 3);
        due("element(0, 3)", x.element(0, 3), MISSING);
        due("element(0, -1)", x.element(0, -1), MISSING);
        x.put(0, 2, -11);
        due("element(0, 2)", x.element(0, 2), -11);
    }

    private static void fill(ThreeThrough x, int shelf, int sort, int n) {
        x.row(shelf, sort, n);
        for (int i = 0; i < n; i++) {
            x.put(shelf, i, 10 * (shelf + 1) + i);
        }
    }

    private static void elements(ThreeThrough x, int shelf, long... want) {
        for (int i = 0; i < want.length; i++) {
            due("element(" + shelf + ", " + i + ")", x.element(shelf, i), want[i]);
        }
    }

    private static void promise37Shift() {
        ThreeThrough x = new ThreeThrough();
        fill(x, 0, 1, 5);
        fill(x, 1, 1, 4);
        due("shift(0, 1, 1, 0, 3)", x.shift(0, 1, 1, 0, 3), 3);
        elements(x, 1, 11, 12, 13, 23);
        elements(x, 0, 10, 11, 12, 13, 14);
        due("shift up within one", x.shift(0, 0, 0, 1, 4), 4);
        elements(x, 0, 10, 10, 11, 12, 13);
        due("shift down within one", x.shift(0, 1, 0, 0, 4), 4);
        elements(x, 0, 10, 11, 12, 13, 13);
        due("none, from the end on", x.shift(0, 5, 1, 4, 0), 0);
    }

    private static void promise37ShiftRefusals() {
        ThreeThrough x = new ThreeThrough();
        fill(x, 0, 1, 5);
        fill(x, 1, 2, 5);
        fill(x, 2, 1, 3);
        x.body(0);
        x.keep(3, 0);
        due("shift(6, ..)", x.shift(6, 0, 0, 0, 1), BAD);
        due("shift(0, .., -1, ..)", x.shift(0, 0, -1, 0, 1), BAD);
        due("from nothing", x.shift(4, 0, 3, 0, 1), -11);
        due("to nothing", x.shift(3, 0, 4, 0, 1), -11);
        due("from a BODY", x.shift(3, 0, 0, 0, 1), -12);
        due("to a BODY", x.shift(0, 0, 3, 0, 1), -12);
        due("BODIES", x.shift(3, 0, 3, 0, 0), -12);
        due("of unlike sorts", x.shift(0, 9, 1, 9, 9), -12);
        int[][] places = {{-1, 0, 1}, {0, -1, 1}, {0, 0, 4}, {5, 0, 1}, {0, 3, 1}, {4, 0, 2}, {6, 0, 0}, {0, 4, 0},
            {0, 0, -1}, {1, 0, Integer.MAX_VALUE}, {Integer.MAX_VALUE, 0, 1}, {0, Integer.MAX_VALUE, 1},
            {0, 0, Integer.MIN_VALUE}, {Integer.MAX_VALUE, Integer.MAX_VALUE, Integer.MAX_VALUE}};
        for (int[] one : places) {
            String call = "shift(0, " + one[0] + ", 2, " + one[1] + ", " + one[2] + ")";
            due(call, x.shift(0, one[0], 2, one[1], one[2]), -13);
        }
        elements(x, 2, 30, 31, 32);
    }

    private static void promise38Taken() {
        boolean[][] under = new boolean[8][8];
        int[] above = {-1, 0, 0, 2, 1, 3, 0, 6};
        for (int kind = 0; kind < 8; kind++) {
            for (int k = kind; k >= 0; k = above[k]) {
                under[kind][k] = true;
            }
        }
        ThreeThrough x = new ThreeThrough();
        for (int kind = 0; kind < 8; kind++) {
            x.body(7 - kind);
        }
        for (int kind = 0; kind < 8; kind++) {
            x.keep(2, 7 - kind);
            for (int k = 0; k < 8; k++) {
                due("KIND " + kind + " taken for " + k, x.taken(2, k), under[kind][k] ? kind : -12);
            }
        }
        due("taken(2, 8)", x.taken(2, 8), BAD);
        due("taken(2, -1)", x.taken(2, -1), BAD);
        due("taken(6, 0)", x.taken(6, 0), BAD);
        due("taken(-1, 0)", x.taken(-1, 0), BAD);
        due("nothing", x.taken(1, 0), -11);
        x.row(1, 0, 1);
        due("a ROW", x.taken(1, 0), -12);
    }

    private static void promise39Count() {
        ThreeThrough x = Checks.withGates(1, 2);
        x.person(1, 1);
        x.person(1, 1);
        x.person(1, 1);
        x.tick(4);
        x.pass(0, 2);
        Checks.feed(x, "12345");
        for (int i = 0; i < 6; i++) {
            x.mend(0, 0, 2 + i);
        }
        for (int i = 0; i < 7; i++) {
            x.body(7);
        }
        x.act(0, 3, 1);
        int[] want = {3, 2, 4, 2, 5, 6, 7, 8};
        for (int what = 0; what < 8; what++) {
            due("count(" + what + ")", x.count(what), want[what]);
        }
        due("count(8)", x.count(8), BAD);
        due("count(-1)", x.count(-1), BAD);
    }
}
