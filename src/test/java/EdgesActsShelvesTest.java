/** The edges of BODIES, ACTS and SHELVES: promises 30 to 39, sentence by sentence. */
public final class EdgesActsShelvesTest {
    private static final Edges EDGES = new Edges("EdgesActsShelvesTest");
    private static final int BAD = ThreeThrough.BAD, FULL = ThreeThrough.FULL;
    private static final int MIN = Integer.MIN_VALUE, MAX = Integer.MAX_VALUE;
    private static final long MISSING = Long.MIN_VALUE;
    private static final int SORTS = 5, LONGS = 3, BOOLEANS = 4;

    private EdgesActsShelvesTest() {
    }

    public static void main(String[] args) {
        constants();
        bodyKinds();
        bodiesAreFullAtFifty();
        actNoSuchBody();
        actNoSuchAct();
        actThatIsNoneChangesNoMore();
        actIntsThatWrap();
        actNumberOfTheLastBody();
        traceFromFirstToLast();
        traceOfTheLatestAct();
        shelvesHoldNothingAtFirst();
        keepShelf();
        keepBodyOrNothing();
        rowShelfAndSort();
        rowSize();
        rowSizeBelowZero();
        rowIsZeroAtFirst();
        putShelf();
        putNothingOrBody();
        putPlace();
        putLowestBitsOfBytes();
        putLowestBitsOfShorts();
        putLowestBitsOfInts();
        putLongs();
        putBooleans();
        elementRefused();
        elementPlace();
        shiftShelves();
        shiftNothing();
        shiftNoRows();
        shiftUnlikeSorts();
        shiftPlaces();
        shiftNone();
        shiftBelowNone();
        shiftAsTheyWereBefore();
        takenShelfAndKind();
        takenNothingOrRow();
        takenOtherKind();
        countWhat();
        EDGES.end();
    }

    private static void constants() {
        EDGES.sentence("public static final int BAD = -1, NOT = -2, FULL = -3, STATE = -5, VOID = -2000000000;");
        EDGES.inside("BAD", x -> ThreeThrough.BAD, -1);
        EDGES.inside("NOT", x -> ThreeThrough.NOT, -2);
        EDGES.inside("FULL", x -> ThreeThrough.FULL, -3);
        EDGES.inside("STATE", x -> ThreeThrough.STATE, -5);
        EDGES.inside("VOID", x -> ThreeThrough.VOID, -2000000000);
    }

    private static void bodyKinds() {
        EDGES.sentence("A BODY of a KIND (0 .. 7) is kept: its number. BAD, FULL.");
        EDGES.of(Edges::rich);
        EDGES.insideFor("body", (x, kind) -> x.body(kind), 3, 0, 7);
        EDGES.insideFor("body, its KIND", (x, kind) -> x.keep(5, x.body(kind)) * x.taken(5, 0) - kind, 0, 0, 1, 7);
        EDGES.refusedFor("body", (x, kind) -> x.body(kind), BAD, -1, 8, MIN, MAX);
    }

    private static void fiftyBodies(ThreeThrough x) {
        for (int i = 0; i < 50; i++) {
            x.body(i % 8);
        }
    }

    private static void bodiesAreFullAtFifty() {
        EDGES.sentence("BODIES 0 .. 49 are kept by call");
        EDGES.of(x -> {
            for (int i = 0; i < 49; i++) x.body(0);
        });
        EDGES.inside("a fiftieth", x -> x.body(7), 49);
        EDGES.inside("a fiftieth on a SHELF", x -> x.keep(0, x.body(7)) * x.taken(0, 7), 7);
        EDGES.of(EdgesActsShelvesTest::fiftyBodies);
        EDGES.inside("count(6)", x -> x.count(6), 50);
        EDGES.refusedFor("a 51st", (x, kind) -> x.body(kind), FULL, 0, 7);
        EDGES.refusedFor("a 51st, BAD ahead of FULL", (x, kind) -> x.body(kind), BAD, -1, 8);
        EDGES.inside("the last on a SHELF", x -> x.keep(0, 49), 1);
        EDGES.refused("none behind it on a SHELF", x -> x.keep(0, 50), BAD);
    }

    private static void actNoSuchBody() {
        EDGES.sentence("An ACT (0 .. 3) of a BODY with x. 0, and no TRACE then: no such BODY, ACT.");
        EDGES.of(Edges::rich);
        EDGES.inside("the first BODY", x -> x.act(0, 0, 5), 5);
        EDGES.inside("the last BODY", x -> x.act(2, 0, 5), (5 + 2) * 2 - 1);
        EDGES.insideFor("no such BODY", (x, body) -> x.act(body, 0, 5), 0, -1, 3, 49, 50, MIN, MAX);
        EDGES.insideFor("no such BODY, count(7)", (x, body) -> x.act(body, 0, 5) + x.count(7), 0, -1, 3, MIN, MAX);
        EDGES.insideFor("no such BODY, trace(0)", (x, body) -> x.act(body, 0, 5) + x.trace(0), BAD, -1, 3, MIN, MAX);
    }

    private static void actNoSuchAct() {
        EDGES.sentence("ACTS with x (an int that wraps): 0 opens, 1 counts, 2 waits, 3 tells; n its number.");
        EDGES.of(Edges::rich);
        EDGES.inside("opens", x -> x.act(0, 0, 5), 5);
        EDGES.inside("counts", x -> x.act(0, 1, 5), 10);
        EDGES.inside("waits", x -> x.act(0, 2, 5), 5);
        EDGES.inside("tells", x -> x.act(0, 3, 5), 10 - 1);
        EDGES.insideFor("no such ACT", (x, act) -> x.act(0, act, 5), 0, -1, 4, MIN, MAX);
        EDGES.insideFor("no such ACT, count(7)", (x, act) -> x.act(0, act, 5) + x.count(7), 0, -1, 4, MIN, MAX);
        EDGES.insideFor("no such ACT, trace(0)", (x, act) -> x.act(0, act, 5) + x.trace(0), BAD, -1, 4, MIN, MAX);
    }

    private static void actThatIsNoneChangesNoMore() {
        EDGES.sentence("0, and no TRACE then: no such BODY, ACT.");
        EDGES.of(x -> {
            Edges.rich(x);
            x.act(0, 4, 0);
        });
        EDGES.refusedFor("no such BODY", (x, body) -> x.act(body, 0, 5), 0, -1, 3);
        EDGES.refusedFor("no such ACT", (x, act) -> x.act(0, act, 5), 0, -1, 4);
    }

    private static void actIntsThatWrap() {
        EDGES.sentence("x (an int that wraps)");
        EDGES.of(x -> {
            for (int kind = 0; kind < 8; kind++) x.body(kind);
        });
        EDGES.inside("KEEPER opens at most", x -> x.act(0, 0, MAX), MAX);
        EDGES.inside("PLAIN opens, one too many", x -> x.act(1, 0, MAX - 3), MIN);
        EDGES.inside("PLAIN opens at most", x -> x.act(1, 0, MAX - 4), MAX);
        EDGES.inside("KEEPER counts, one too many", x -> x.act(0, 1, 1 << 30), MIN);
        EDGES.inside("KEEPER counts at most", x -> x.act(0, 1, (1 << 30) - 1), MAX - 1);
        EDGES.inside("KEEPER counts at least", x -> x.act(0, 1, -(1 << 30)), MIN);
        EDGES.inside("KEEPER counts the least", x -> x.act(0, 1, MIN), 0);
        EDGES.inside("LOOK counts: the least negated", x -> x.act(2, 1, (1 << 30) - 2), MIN);
        EDGES.inside("WALK counts: x + 1 wraps", x -> x.act(3, 1, MAX), -(2 * (MIN + 3)));
        EDGES.inside("KEEPER waits the least", x -> x.act(0, 2, MIN), MIN);
        EDGES.inside("WALK waits the least", x -> x.act(3, 2, MIN), (MIN ^ 3) * 3);
        EDGES.inside("KEEPER tells the least", x -> x.act(0, 3, 1 << 30), MAX);
        EDGES.inside("AWAY opens the least", x -> x.act(7, 0, (1 << 30) - 7), MAX);
    }

    private static void actNumberOfTheLastBody() {
        EDGES.sentence("n its number.");
        EDGES.of(EdgesActsShelvesTest::fiftyBodies);
        EDGES.inside("the first", x -> x.act(0, 0, 0), 0);
        EDGES.inside("the last, PLAIN", x -> x.act(49, 0, 0), 52);
        EDGES.inside("the last, PLAIN, waits", x -> x.act(49, 2, 1), 48);
        EDGES.inside("none behind it", x -> x.act(50, 0, 1), 0);
    }

    /** BEST tells runs ten bodies, more than any other act. */
    private static void traceFromFirstToLast() {
        EDGES.sentence("THE TRACE's i-th body. BAD.");
        EDGES.of(Edges::rich);
        EDGES.inside("the first", x -> x.trace(0), 61);
        EDGES.inside("the second", x -> x.trace(1), 2);
        EDGES.inside("the last", x -> x.trace(9), 1);
        EDGES.inside("the last but one", x -> x.trace(8), 11);
        EDGES.refusedFor("trace", (x, i) -> x.trace(i), BAD, -1, 10, 11, 23, 24, 25, MIN, MAX);
        EDGES.of(x -> { });
        EDGES.refusedFor("no act() yet", (x, i) -> x.trace(i), BAD, -1, 0, 1);
    }

    private static void traceOfTheLatestAct() {
        EDGES.sentence("THE TRACE: numbers of the bodies that ran in the latest act(), as they began; the first 24 are kept.");
        EDGES.of(x -> {
            Edges.rich(x);
            x.act(0, 0, 1);
        });
        EDGES.inside("the only one", x -> x.trace(0), 1);
        EDGES.refused("none behind it, though an earlier act() ran ten", x -> x.trace(1), BAD);
        EDGES.inside("count(7)", x -> x.count(7), 1);
        EDGES.of(x -> {
            for (int kind = 0; kind < 8; kind++) x.body(kind);
        });
        for (int b = 0; b < 8; b++) {
            for (int a = 0; a < 4; a++) {
                int body = b;
                int act = a;
                EDGES.inside("the last of KIND " + b + ", act " + a, x -> {
                    x.act(body, act, 5);
                    return x.trace(x.count(7) - 1) > 0 && x.trace(x.count(7)) == BAD ? 1 : 0;
                }, 1);
            }
        }
    }

    private static void shelvesHoldNothingAtFirst() {
        EDGES.sentence("SHELVES 0 .. 5 each hold nothing (at first), a BODY, or a ROW");
        EDGES.refusedFor("taken", (x, shelf) -> x.taken(shelf, 0), -11, 0, 1, 2, 3, 4, 5);
        EDGES.refusedFor("put", (x, shelf) -> x.put(shelf, 0, 1), -11, 0, 1, 2, 3, 4, 5);
        EDGES.refusedFor("element", (x, shelf) -> x.element(shelf, 0), MISSING, 0, 5);
        EDGES.insideFor("row", (x, shelf) -> x.row(shelf, 0, 1), 1, 0, 5);
        EDGES.refusedFor("row", (x, shelf) -> x.row(shelf, 0, 1), BAD, -1, 6);
    }

    private static void keepShelf() {
        EDGES.sentence("A SHELF holds nothing (body -1), or a BODY: 1. BAD.");
        EDGES.of(Edges::rich);
        EDGES.insideFor("keep(shelf, 2)", (x, shelf) -> x.keep(shelf, 2), 1, 0, 5);
        EDGES.insideFor("keep(shelf, 2), taken", (x, shelf) -> x.keep(shelf, 2) * x.taken(shelf, 0), 7, 0, 1, 2, 3, 4, 5);
        EDGES.insideFor("keep(shelf, -1), taken", (x, shelf) -> x.keep(shelf, -1) * x.taken(shelf, 0), -11, 0, 1, 4, 5);
        EDGES.refusedFor("keep(shelf, 2)", (x, shelf) -> x.keep(shelf, 2), BAD, -1, 6, MIN, MAX);
        EDGES.refusedFor("keep(shelf, -1)", (x, shelf) -> x.keep(shelf, -1), BAD, -1, 6, MIN, MAX);
    }

    private static void keepBodyOrNothing() {
        EDGES.sentence("A SHELF holds nothing (body -1), or a BODY: 1. BAD.");
        EDGES.of(Edges::rich);
        EDGES.insideFor("keep(0, body)", (x, body) -> x.keep(0, body), 1, -1, 0, 2);
        EDGES.inside("the first BODY", x -> x.keep(0, 0) * x.taken(0, 0), 0);
        EDGES.inside("the last BODY", x -> x.keep(0, 2) * x.taken(0, 0), 7);
        EDGES.refusedFor("keep(0, body), a BODY there", (x, body) -> x.keep(0, body), BAD, -2, 3, 49, 50, MIN, MAX);
        EDGES.refusedFor("keep(4, body), a ROW there", (x, body) -> x.keep(4, body), BAD, -2, 3, MIN, MAX);
        EDGES.of(x -> { });
        EDGES.refused("no BODIES", x -> x.keep(0, 0), BAD);
        EDGES.inside("no BODIES: nothing", x -> x.keep(0, -1), 1);
    }

    private static void rowShelfAndSort() {
        EDGES.sentence("A SHELF holds a ROW: 1. BAD (sort, n above 60); -14.");
        EDGES.of(Edges::rich);
        EDGES.insideFor("row(shelf, 0, 1)", (x, shelf) -> x.row(shelf, 0, 1), 1, 0, 5);
        EDGES.refusedFor("row(shelf, 0, 1)", (x, shelf) -> x.row(shelf, 0, 1), BAD, -1, 6, MIN, MAX);
        EDGES.insideFor("row(4, sort, 1)", (x, sort) -> x.row(4, sort, 1), 1, 0, 1, 2, 3, 4);
        EDGES.refusedFor("row(4, sort, 1)", (x, sort) -> x.row(4, sort, 1), BAD, -1, 5, MIN, MAX);
        EDGES.inside("a ROW instead of a BODY", x -> x.row(0, 0, 1) + x.element(0, 0), 1);
    }

    private static void rowSize() {
        EDGES.sentence("of 0 bytes, 1 shorts, 2 ints, 3 longs, 4 booleans, of 0 .. 60 elements");
        for (int s = 0; s < SORTS; s++) {
            int sort = s;
            EDGES.of(Edges::rich);
            EDGES.insideFor("row(4, " + s + ", n)", (x, n) -> x.row(4, sort, n), 1, 0, 1, 60);
            EDGES.refusedFor("row(4, " + s + ", n)", (x, n) -> x.row(4, sort, n), BAD, 61, 62, MAX);
            EDGES.inside("sixty, the last", x -> x.row(4, sort, 60) + x.put(4, 59, 1) + x.element(4, 59), 3);
            EDGES.inside("59, one behind the last", x -> x.row(4, sort, 59) * x.put(4, 59, 1), -13);
            EDGES.inside("none, the first", x -> x.row(4, sort, 0) * x.put(4, 0, 1), -13);
        }
    }

    private static void rowSizeBelowZero() {
        EDGES.sentence("-14 a size below 0.");
        EDGES.of(Edges::rich);
        EDGES.inside("row(4, 3, 0)", x -> x.row(4, 3, 0), 1);
        for (int s = 0; s < SORTS; s++) {
            int sort = s;
            EDGES.refusedFor("row(4, " + s + ", n)", (x, n) -> x.row(4, sort, n), -14, -1, -2, MIN);
        }
        EDGES.refused("of a SHELF that holds a BODY", x -> x.row(0, 0, -1), -14);
        EDGES.refused("of a SHELF that holds nothing", x -> x.row(5, 0, -1), -14);
        EDGES.refusedFor("BAD ahead of -14", (x, shelf) -> x.row(shelf, 0, -1), BAD, -1, 6);
        EDGES.refusedFor("BAD ahead of -14", (x, sort) -> x.row(4, sort, -1), BAD, -1, 5);
    }

    private static void rowIsZeroAtFirst() {
        EDGES.sentence("0 at first (false);");
        for (int s = 0; s < SORTS; s++) {
            int sort = s;
            EDGES.of(x -> {
                x.row(0, sort, 60);
                for (int i = 0; i < 60; i++) x.put(0, i, 1);
            });
            EDGES.inside("put", x -> x.element(0, 0) + x.element(0, 59), 2);
            for (int t = 0; t < SORTS; t++) {
                int anew = t;
                EDGES.inside("a ROW anew", x -> x.row(0, anew, 60) + x.element(0, 0) + x.element(0, 59), 1);
            }
            EDGES.inside("a ROW anew behind a smaller one", x -> {
                x.row(0, sort, 1);
                x.row(0, sort, 60);
                return x.element(0, 0) + x.element(0, 59);
            }, 0);
        }
    }

    private static void putShelf() {
        EDGES.sentence("Element i of a ROW becomes v: 1. BAD, -11, -12, -13.");
        EDGES.of(Edges::rich);
        EDGES.inside("put(4, 0, 7)", x -> x.put(4, 0, 7) * 10 + x.element(4, 0), 17);
        EDGES.refusedFor("put(shelf, 0, 1)", (x, shelf) -> x.put(shelf, 0, 1), BAD, -1, 6, MIN, MAX);
        EDGES.refusedFor("put(shelf, -1, 1), BAD ahead of -13", (x, shelf) -> x.put(shelf, -1, 1), BAD, -1, 6);
        EDGES.of(x -> {
            x.row(0, 2, 1);
            x.row(5, 2, 1);
        });
        EDGES.insideFor("put(shelf, 0, 1)", (x, shelf) -> x.put(shelf, 0, 1) + x.element(shelf, 0), 2, 0, 5);
    }

    private static void putNothingOrBody() {
        EDGES.sentence("-11 nothing is there where something is wanted; -12 it is of another kind;");
        EDGES.of(Edges::rich);
        EDGES.refusedFor("on nothing, place", (x, i) -> x.put(5, i, 1), -11, 0, -1, 60, MIN, MAX);
        EDGES.refusedFor("on a BODY, place", (x, i) -> x.put(0, i, 1), -12, 0, -1, 60, MIN, MAX);
    }

    private static void putPlace() {
        EDGES.sentence("-13 a place that is not there;");
        EDGES.of(Edges::rich);
        EDGES.insideFor("put(4, i, 9)", (x, i) -> x.put(4, i, 9) + x.element(4, i), 10, 0, 1, 58, 59);
        EDGES.refusedFor("put(4, i, 9)", (x, i) -> x.put(4, i, 9), -13, -1, 60, 61, MIN, MAX);
        EDGES.insideFor("put(2, i, 9)", (x, i) -> x.put(2, i, 9) + x.element(2, i), 10, 0, 3);
        EDGES.refusedFor("put(2, i, 9)", (x, i) -> x.put(2, i, 9), -13, -1, 4, 59, 60, MIN, MAX);
        for (int s = 0; s < SORTS; s++) {
            int sort = s;
            EDGES.of(x -> x.row(0, sort, 1));
            EDGES.inside("one place, sort " + s, x -> x.put(0, 0, 1), 1);
            EDGES.refusedFor("one place, sort " + s, (x, i) -> x.put(0, i, 1), -13, -1, 1);
            EDGES.of(x -> x.row(0, sort, 0));
            EDGES.refusedFor("no place, sort " + s, (x, i) -> x.put(0, i, 1), -13, -1, 0);
        }
    }

    private static void kept(int sort, long v, long want) {
        EDGES.of(x -> x.row(0, sort, 3));
        EDGES.inside("sort " + sort + " of " + v, x -> x.put(0, 1, v) == 1 ? x.element(0, 1) : MISSING, want);
        EDGES.inside("sort " + sort + " of " + v + ", its neighbours", x -> {
            x.put(0, 1, v);
            return x.element(0, 0) + x.element(0, 2);
        }, 0);
    }

    private static void putLowestBitsOfBytes() {
        EDGES.sentence("what is put in keeps its lowest bits");
        kept(0, 127, 127);
        kept(0, 128, -128);
        kept(0, -128, -128);
        kept(0, -129, 127);
        kept(0, 255, -1);
        kept(0, 256, 0);
        kept(0, Long.MAX_VALUE, -1);
        kept(0, Long.MIN_VALUE, 0);
    }

    private static void putLowestBitsOfShorts() {
        EDGES.sentence("what is put in keeps its lowest bits");
        kept(1, 32767, 32767);
        kept(1, 32768, -32768);
        kept(1, -32768, -32768);
        kept(1, -32769, 32767);
        kept(1, 65535, -1);
        kept(1, 65536, 0);
        kept(1, Long.MAX_VALUE, -1);
        kept(1, Long.MIN_VALUE, 0);
    }

    private static void putLowestBitsOfInts() {
        EDGES.sentence("what is put in keeps its lowest bits");
        kept(2, MAX, MAX);
        kept(2, MAX + 1L, MIN);
        kept(2, MIN, MIN);
        kept(2, MIN - 1L, MAX);
        kept(2, (1L << 32) - 1, -1);
        kept(2, 1L << 32, 0);
        kept(2, Long.MAX_VALUE, -1);
        kept(2, Long.MIN_VALUE, 0);
    }

    private static void putLongs() {
        EDGES.sentence("what is put in keeps its lowest bits");
        kept(LONGS, Long.MAX_VALUE, Long.MAX_VALUE);
        kept(LONGS, Long.MIN_VALUE + 1, Long.MIN_VALUE + 1);
        kept(LONGS, Long.MIN_VALUE, Long.MIN_VALUE);
        kept(LONGS, -1, -1);
        kept(LONGS, 1L << 32, 1L << 32);
    }

    private static void putBooleans() {
        EDGES.sentence("(a boolean: whether it is not 0; 1 or 0)");
        kept(BOOLEANS, 0, 0);
        kept(BOOLEANS, 1, 1);
        kept(BOOLEANS, -1, 1);
        kept(BOOLEANS, 2, 1);
        kept(BOOLEANS, 256, 1);
        kept(BOOLEANS, 1L << 32, 1);
        kept(BOOLEANS, Long.MIN_VALUE, 1);
    }

    private static void elementRefused() {
        EDGES.sentence("Element i of a ROW; Long.MIN_VALUE: BAD, -11 to -13.");
        EDGES.of(Edges::rich);
        EDGES.refusedFor("no such SHELF", (x, shelf) -> x.element(shelf, 0), MISSING, -1, 6, MIN, MAX);
        EDGES.refusedFor("nothing, place", (x, i) -> x.element(5, i), MISSING, 0, -1, 60);
        EDGES.refusedFor("a BODY, place", (x, i) -> x.element(0, i), MISSING, 0, -1, 60);
    }

    private static void elementPlace() {
        EDGES.sentence("Element i of a ROW;");
        EDGES.of(Edges::rich);
        EDGES.inside("the first", x -> x.element(4, 0), 0);
        EDGES.inside("the last", x -> x.element(4, 59), Long.MAX_VALUE);
        EDGES.inside("the last of four", x -> x.element(2, 3), 1000);
        EDGES.refusedFor("sixty places", (x, i) -> x.element(4, i), MISSING, -1, 60, MIN, MAX);
        EDGES.refusedFor("four places", (x, i) -> x.element(2, i), MISSING, -1, 4, 59, 60, MIN, MAX);
        EDGES.of(x -> x.row(0, 0, 0));
        EDGES.refusedFor("no places", (x, i) -> x.element(0, i), MISSING, -1, 0, 1);
    }

    private static void shiftShelves() {
        EDGES.sentence("n elements of a ROW from i on come to another one (or the same) from j on, as they all were before: n. BAD,");
        EDGES.of(Edges::rich);
        EDGES.inside("the same", x -> x.shift(4, 59, 4, 0, 1) == 1 ? x.element(4, 0) : MISSING, Long.MAX_VALUE);
        EDGES.refusedFor("from no SHELF", (x, shelf) -> x.shift(shelf, 0, 4, 0, 1), BAD, -1, 6, MIN, MAX);
        EDGES.refusedFor("to no SHELF", (x, shelf) -> x.shift(4, 0, shelf, 0, 1), BAD, -1, 6, MIN, MAX);
        EDGES.refusedFor("from nothing to no SHELF", (x, shelf) -> x.shift(5, 0, shelf, 0, 1), BAD, -1, 6);
        EDGES.of(x -> {
            x.row(0, 2, 2);
            x.row(5, 2, 2);
            x.put(0, 0, 7);
            x.put(5, 0, 8);
        });
        EDGES.inside("from 0 to 5", x -> x.shift(0, 0, 5, 1, 1) * x.element(5, 1), 7);
        EDGES.inside("from 5 to 0", x -> x.shift(5, 0, 0, 1, 1) * x.element(0, 1), 8);
    }

    private static void shiftNothing() {
        EDGES.sentence("BAD, -11 (either), -12 (no ROWS, or of unlike sorts), -13.");
        EDGES.of(Edges::rich);
        EDGES.refusedFor("from nothing to", (x, other) -> x.shift(5, 0, other, 0, 1), -11, 0, 1, 2, 5);
        EDGES.refusedFor("to nothing from", (x, shelf) -> x.shift(shelf, 0, 5, 0, 1), -11, 0, 1, 2, 5);
        EDGES.refused("none of nothing", x -> x.shift(5, 0, 5, 0, 0), -11);
        EDGES.refused("from nothing, -11 ahead of -13", x -> x.shift(5, -1, 4, 99, -1), -11);
        EDGES.refused("to nothing, -11 ahead of -12", x -> x.shift(0, -1, 5, 99, -1), -11);
    }

    private static void shiftNoRows() {
        EDGES.sentence("-12 (no ROWS, or of unlike sorts), -13.");
        EDGES.of(Edges::rich);
        EDGES.refused("from a BODY", x -> x.shift(0, 0, 4, 0, 1), -12);
        EDGES.refused("to a BODY", x -> x.shift(4, 0, 0, 0, 1), -12);
        EDGES.refused("from a BODY to the same", x -> x.shift(0, 0, 0, 0, 0), -12);
        EDGES.refused("a BODY, -12 ahead of -13", x -> x.shift(0, -1, 4, 61, -1), -12);
    }

    private static void shiftUnlikeSorts() {
        EDGES.sentence("-12 (no ROWS, or of unlike sorts), -13.");
        for (int s = 0; s < SORTS; s++) {
            for (int t = 0; t < SORTS; t++) {
                int one = s;
                int other = t;
                EDGES.of(x -> {
                    x.row(0, one, 2);
                    x.row(1, other, 2);
                    x.put(0, 0, 1);
                });
                String call = "sort " + s + " to " + t;
                if (s == t) {
                    EDGES.inside(call, x -> x.shift(0, 0, 1, 1, 1) + x.element(1, 1), 2);
                } else {
                    EDGES.refused(call, x -> x.shift(0, 0, 1, 1, 1), -12);
                    EDGES.refused(call + ", none", x -> x.shift(0, 0, 1, 1, 0), -12);
                    EDGES.refused(call + ", -12 ahead of -13", x -> x.shift(0, 2, 1, 2, 9), -12);
                }
            }
        }
    }

    private static void fiveAndThree() {
        EDGES.of(x -> {
            x.row(0, 1, 5);
            x.row(1, 1, 3);
            for (int i = 0; i < 5; i++) x.put(0, i, 10 + i);
            for (int i = 0; i < 3; i++) x.put(1, i, 20 + i);
        });
    }

    private static void shiftPlaces() {
        EDGES.sentence("-13 a place that is not there;");
        fiveAndThree();
        EDGES.inside("all that go in", x -> x.shift(0, 0, 1, 0, 3), 3);
        EDGES.inside("the last ones", x -> x.shift(0, 2, 1, 0, 3) * x.element(1, 2), 3 * 14);
        EDGES.inside("the last to the last", x -> x.shift(0, 4, 1, 2, 1) * x.element(1, 2), 14);
        EDGES.refused("one too many to go in", x -> x.shift(0, 0, 1, 0, 4), -13);
        EDGES.refused("one place too far from", x -> x.shift(0, 3, 1, 0, 3), -13);
        EDGES.refused("one place too far to", x -> x.shift(0, 0, 1, 1, 3), -13);
        EDGES.refused("one too many in all", x -> x.shift(0, 0, 0, 0, 6), -13);
        EDGES.refusedFor("from", (x, i) -> x.shift(0, i, 1, 0, 1), -13, -1, 5, 6, MIN, MAX);
        EDGES.refusedFor("to", (x, j) -> x.shift(0, 0, 1, j, 1), -13, -1, 3, 4, MIN, MAX);
        EDGES.refusedFor("n", (x, n) -> x.shift(0, 0, 1, 0, n), -13, 4, 5, 60, 61, MAX);
        EDGES.refusedFor("n from 1", (x, n) -> x.shift(0, 1, 1, 1, n), -13, 3, MAX - 1, MAX);
        EDGES.refused("all far away", x -> x.shift(0, MAX, 1, MAX, MAX), -13);
        EDGES.refused("all far away", x -> x.shift(0, MIN, 1, MIN, MAX), -13);
    }

    private static void shiftNone() {
        EDGES.sentence("n elements of a ROW from i on");
        fiveAndThree();
        EDGES.refused("none", x -> x.shift(0, 0, 1, 0, 0), 0);
        EDGES.refused("none from the ends on", x -> x.shift(0, 5, 1, 3, 0), 0);
        EDGES.refused("none from behind the end on", x -> x.shift(0, 6, 1, 0, 0), -13);
        EDGES.refused("none to behind the end", x -> x.shift(0, 0, 1, 4, 0), -13);
        EDGES.refused("none from ahead of the row", x -> x.shift(0, -1, 1, 0, 0), -13);
        EDGES.refused("none to ahead of the row", x -> x.shift(0, 0, 1, -1, 0), -13);
        EDGES.of(x -> x.row(0, 1, 0));
        EDGES.refused("none of an empty row", x -> x.shift(0, 0, 0, 0, 0), 0);
        EDGES.refused("one of an empty row", x -> x.shift(0, 0, 0, 0, 1), -13);
    }

    private static void shiftBelowNone() {
        EDGES.sentence("-13 a place that is not there;");
        fiveAndThree();
        EDGES.refusedFor("n below 0", (x, n) -> x.shift(0, 2, 1, 2, n), -13, -1, -2, MIN, MIN + 1);
    }

    private static void shiftAsTheyWereBefore() {
        EDGES.sentence("(or the same) from j on, as they all were before: n.");
        EDGES.of(x -> {
            x.row(0, 3, 60);
            for (int i = 0; i < 60; i++) x.put(0, i, i + 1);
        });
        EDGES.inside("all but one, up: n", x -> x.shift(0, 0, 0, 1, 59), 59);
        EDGES.inside("all but one, up: the last", x -> x.shift(0, 0, 0, 1, 59) * x.element(0, 59), 59 * 59);
        EDGES.inside("all but one, up: the second", x -> x.shift(0, 0, 0, 1, 59) * x.element(0, 1), 59);
        EDGES.inside("all but one, up: the first", x -> x.shift(0, 0, 0, 1, 59) * x.element(0, 0), 59);
        EDGES.inside("all but one, down: the first", x -> x.shift(0, 1, 0, 0, 59) * x.element(0, 0), 59 * 2);
        EDGES.inside("all but one, down: the last", x -> x.shift(0, 1, 0, 0, 59) * x.element(0, 59), 59 * 60);
        EDGES.inside("all but one, down: the last but one", x -> x.shift(0, 1, 0, 0, 59) * x.element(0, 58), 59 * 60);
        EDGES.refused("all to where they are", x -> x.shift(0, 0, 0, 0, 60), 60);
    }

    private static void takenShelfAndKind() {
        EDGES.sentence("What a SHELF holds, taken for a BODY of KIND k (0 .. 7), or under it: its KIND. BAD, -11, -12.");
        EDGES.of(x -> {
            fiftyBodies(x);
            x.keep(0, 0);
            x.keep(5, 7);
        });
        EDGES.inside("KIND 0 taken for 0", x -> x.taken(0, 0), 0);
        EDGES.inside("KIND 7 taken for 7", x -> x.taken(5, 7), 7);
        EDGES.refusedFor("taken(shelf, 0)", (x, shelf) -> x.taken(shelf, 0), BAD, -1, 6, MIN, MAX);
        EDGES.refusedFor("taken(0, k)", (x, k) -> x.taken(0, k), BAD, -1, 8, MIN, MAX);
        EDGES.refusedFor("nothing, BAD ahead of -11", (x, k) -> x.taken(1, k), BAD, -1, 8);
    }

    private static void takenNothingOrRow() {
        EDGES.sentence("or under it: its KIND. BAD, -11, -12.");
        EDGES.of(Edges::rich);
        for (int k = 0; k < 8; k++) {
            int kind = k;
            EDGES.refused("nothing for " + k, x -> x.taken(5, kind), -11);
            EDGES.refusedFor("a ROW for " + k, (x, shelf) -> x.taken(shelf, kind), -12, 1, 2, 3, 4);
        }
        EDGES.refusedFor("a ROW, BAD ahead of -12", (x, k) -> x.taken(1, k), BAD, -1, 8);
    }

    private static void takenOtherKind() {
        EDGES.sentence("0 KEEPER; 1 PLAIN under KEEPER; 2 LOOK under KEEPER; 3 WALK under LOOK; 4 TWO under PLAIN; 5 BEST under WALK; 6 TOLD under KEEPER; 7 AWAY under TOLD.");
        // For each KIND those that it can be taken for.
        int[][] takenFor = {{0}, {1, 0}, {2, 0}, {3, 2, 0}, {4, 1, 0}, {5, 3, 2, 0}, {6, 0}, {7, 6, 0}};
        for (int b = 0; b < 8; b++) {
            int body = b;
            EDGES.of(x -> {
                fiftyBodies(x);
                x.keep(3, body);
            });
            for (int k = 0; k < 8; k++) {
                int kind = k;
                boolean under = false;
                for (int one : takenFor[b]) under |= one == k;
                if (under) {
                    EDGES.inside("KIND " + b + " for " + k, x -> x.taken(3, kind), body);
                } else {
                    EDGES.refused("KIND " + b + " for " + k, x -> x.taken(3, kind), -12);
                }
            }
        }
    }

    private static void countWhat() {
        EDGES.sentence("How many: 0 PEOPLE, 1 GATES, 2 NOW, 3 within in deed, 4 bytes on THE TAPE, 5 changes that may be UNDONE, 6 BODIES, 7 bodies that ran in the latest act(). BAD.");
        EDGES.of(Edges::rich);
        int[] want = {3, 2, 7, 1, 3, 2, 3, 10};
        for (int k = 0; k < want.length; k++) {
            int what = k;
            EDGES.inside("count(" + k + ")", x -> x.count(what), want[k]);
        }
        EDGES.refusedFor("count", (x, what) -> x.count(what), BAD, -1, 8, MIN, MAX);
    }
}
