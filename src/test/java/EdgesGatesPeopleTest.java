/** The edges of promises 1 to 6 (a new object, gates, people) and 11, 12 (in deed), sentence by sentence. */
public final class EdgesGatesPeopleTest {
    private static final Edges EDGES = new Edges("EdgesGatesPeopleTest");
    private static final int BAD = ThreeThrough.BAD, NOT = ThreeThrough.NOT, FULL = ThreeThrough.FULL;
    private static final int STATE = ThreeThrough.STATE;
    private static final int MIN = Integer.MIN_VALUE, MAX = Integer.MAX_VALUE;

    private EdgesGatesPeopleTest() {
    }

    public static void main(String[] args) {
        atMost512Calls();
        noGatesNobody();
        nowIs0AtFirst();
        memoryIsItsOwn();
        numberOfAGate();
        gatesAreFullAtThree();
        theLastOfThreeGates();
        theLastOfTwelvePeople();
        leavesOfAPerson();
        returnsOfAPerson();
        costOfAPerson();
        peopleAreFullAtTwelve();
        peopleAreWithinAtFirst();
        peopleFromARowHowMany();
        peopleFromARowNoBytes();
        peopleFromARowMissing();
        peopleFromARowThatEnds();
        peopleFromARowFromAPlace();
        peopleFromARowNotAsTheyMayBe();
        peopleFromARowAreFull();
        mendWhatAndWhom();
        mendCost();
        mendReturns();
        mendNumber();
        ofWhatAndWhom();
        ofWaitsNow();
        waitsToGoOut();
        waitsToComeIn();
        passGateWayPeople();
        passAtTheEnd();
        passJustSoMany();
        passOnThatSide();
        passMay();
        passWithoutWaiting();
        tickHowLong();
        tickBehindTheEnd();
        tickTimeByTime();
        EDGES.end();
    }

    private static void atMost512Calls() {
        EDGES.sentence("An object is used for at most 512 calls after it has been made; what later calls answer is free.");
        EDGES.of(x -> {
            x.person(60, 1);
            for (int k = 1; k <= 510; k++) x.mend(0, 0, 1 + k % 2);
        });
        EDGES.inside("undo(), the 512th call", x -> x.undo(), 39);
        EDGES.inside("later calls end", x -> {
            for (int k = 0; k < 600; k++) x.mend(0, 0, 1 + k % 9);
            return 0;
        }, 0);
        EDGES.of(x -> {
            for (int k = 0; k < 511; k++) x.feed('1');
        });
        EDGES.inside("law(0), the 512th call", x -> x.law(0), -104);
    }

    private static void noGatesNobody() {
        EDGES.sentence("No gates, nobody.");
        EDGES.inside("count(0)", x -> x.count(0), 0);
        EDGES.inside("count(1)", x -> x.count(1), 0);
        EDGES.inside("count(3)", x -> x.count(3), 0);
        EDGES.refused("of(0, 0)", x -> x.of(0, 0), BAD);
        EDGES.refused("of(0, 10)", x -> x.of(0, 10), BAD);
        EDGES.refused("mend(0, 0, 1)", x -> x.mend(0, 0, 1), BAD);
        EDGES.refused("mend(0, 2, 1)", x -> x.mend(0, 2, 1), BAD);
        EDGES.refused("comes(0, 0)", x -> x.comes(0, 0), BAD);
        EDGES.refused("pass(0, 0)", x -> x.pass(0, 0), BAD);
        EDGES.refused("day(0, 0, 0)", x -> x.day(0, 0, 0), BAD);
        EDGES.inside("sum(0, 0)", x -> x.sum(0, 0), 0);
        EDGES.inside("tick(60)", x -> x.tick(60), 60);
        EDGES.inside("gate(1), the first", x -> x.gate(1), 0);
        EDGES.inside("person(1, 1), the first", x -> x.person(1, 1), 0);
    }

    private static void nowIs0AtFirst() {
        EDGES.sentence("59; NOW is 0 at first.");
        EDGES.inside("count(2)", x -> x.count(2), 0);
        EDGES.of(Edges::rich);
        EDGES.insideFor("may at TIME", (x, t) -> x.may(0, 0, t), 1, 0, 59);
        EDGES.refusedFor("may at TIME", (x, t) -> x.may(0, 0, t), BAD, -1, 60, 61, MIN, MAX);
        EDGES.inside("comes at TIME 0", x -> x.comes(0, 0), 0);
        EDGES.inside("comes at TIME 59", x -> x.comes(0, 59), 4);
        EDGES.refusedFor("comes at TIME", (x, t) -> x.comes(0, t), BAD, -1, 60, 61, MIN, MAX);
    }

    private static void memoryIsItsOwn() {
        EDGES.sentence("All memory is the class's own.");
        EDGES.inside("another object has no part in it", x -> {
            String before = Looks.at(x, 0);
            ThreeThrough other = new ThreeThrough();
            Edges.rich(other);
            return before.equals(Looks.at(x, 0)) ? 1 : 0;
        }, 1);
    }

    private static void numberOfAGate() {
        EDGES.sentence("GATES 0 .. 2, as they come: a NUMBER (1 .. 6).");
        EDGES.insideFor("gate", (x, v) -> x.gate(v), 0, 1, 6);
        EDGES.inside("gate(1), NUMBER", x -> x.gate(1) + x.of(0, 10), 1);
        EDGES.inside("gate(6), NUMBER", x -> x.gate(6) + x.of(0, 10), 6);
        EDGES.refusedFor("gate", (x, v) -> x.gate(v), BAD, 0, 7, -1, MIN, MAX);
        EDGES.of(Edges::rich);
        EDGES.inside("gate(1) as the third", x -> x.gate(1), 2);
        EDGES.refusedFor("gate", (x, v) -> x.gate(v), BAD, 0, 7, -1, MIN, MAX);
    }

    private static void gatesAreFullAtThree() {
        EDGES.sentence("A GATE: its number. BAD, FULL: 3.");
        EDGES.of(x -> {
            Edges.rich(x);
            x.gate(6);
        });
        EDGES.inside("of(2, 10)", x -> x.of(2, 10), 6);
        EDGES.refusedFor("a fourth gate", (x, v) -> x.gate(v), FULL, 1, 3, 6);
        EDGES.refusedFor("a fourth gate, BAD ahead of FULL", (x, v) -> x.gate(v), BAD, 0, 7);
    }

    /** GATES of 6, 5 and 2, and twelve PEOPLE: in each call the last one is there, and none behind it. */
    private static void full(ThreeThrough x) {
        x.gate(6);
        x.gate(5);
        x.gate(2);
        Edges.crowd(x, 12);
        Checks.bytes(x, 0, 2, 2, 3, 2);
        Checks.tell(x, 1, "g=2&t=0?12;0");
    }

    private static void theLastOfThreeGates() {
        EDGES.sentence("GATES 0 .. 2, as they come");
        EDGES.of(EdgesGatesPeopleTest::full);
        EDGES.inside("of(2, 10)", x -> x.of(2, 10), 2);
        EDGES.refused("of(3, 10)", x -> x.of(3, 10), BAD);
        EDGES.inside("mend(2, 2, 4)", x -> x.mend(2, 2, 4), 2);
        EDGES.refused("mend(3, 2, 4)", x -> x.mend(3, 2, 4), BAD);
        EDGES.inside("may(0, 21, 0)", x -> x.may(0, 21, 0), 1);
        EDGES.refusedFor("may(0, gs, 0)", (x, gs) -> x.may(0, gs, 0), BAD, 30, 31);
        EDGES.insideFor("comes(gn, 0)", (x, gn) -> x.comes(gn, 0), 12, 20, 29);
        EDGES.insideFor("comes(gn, 0)", (x, gn) -> x.comes(gn, 0), 0, 19, 10);
        EDGES.refused("comes(30, 0)", x -> x.comes(30, 0), BAD);
        EDGES.inside("pass(20, 3)", x -> x.pass(20, 3), 10);
        EDGES.inside("pass(21, 3)", x -> x.pass(20, 3) + x.pass(21, 3), 10 + 12);
        EDGES.refusedFor("pass(gs, 3)", (x, gs) -> x.pass(gs, 3), BAD, 30, 31);
        EDGES.inside("escort(21, 1)", x -> x.escort(21, 1), NOT);
        EDGES.inside("escort(22, 1)", x -> x.escort(22, 1), 1);
        EDGES.refusedFor("escort(gn, 1)", (x, gn) -> x.escort(gn, 1), BAD, 30, 39);
        EDGES.inside("waits(200, 1, 0)", x -> x.waits(200, 1, 0), 1);
        EDGES.inside("waits(259, 2, 0)", x -> x.waits(259, 2, 0), 2);
        EDGES.refusedFor("waits(gt, 1, 0)", (x, gt) -> x.waits(gt, 1, 0), Long.MIN_VALUE, 300, 359);
        EDGES.inside("drawn(7, 2, 2)", x -> x.drawn(7, 2, 2), 0);
        EDGES.inside("drawn(7, 2, 2) by ones", x -> x.mend(2, 2, 1) + x.drawn(7, 2, 2), 2 + 2);
        EDGES.refused("drawn(7, 2, 3)", x -> x.drawn(7, 2, 3), BAD);
        EDGES.inside("a BOOK: GATE 2 is there, 3 is not", x -> x.judge(0, 40), 1);
        EDGES.inside("reach(2) by the third alone", x -> x.reach(2), 5);
        EDGES.inside("steps(202, 0)", x -> x.steps(202, 0), 1);
        EDGES.inside("boat(202, 100)", x -> x.boat(202, 100), 0);
        EDGES.inside("soon(13) by all three at once", x -> x.soon(13), 1);
        EDGES.inside("sum(0, 1): 6 and 6", x -> x.sum(0, 1), 2);
    }

    private static void theLastOfTwelvePeople() {
        EDGES.sentence("PEOPLE 0 .. 11, as they come");
        EDGES.of(EdgesGatesPeopleTest::full);
        EDGES.inside("of(11, 1)", x -> x.of(11, 1), 60);
        EDGES.refused("of(12, 1)", x -> x.of(12, 1), BAD);
        EDGES.inside("mend(11, 0, 9)", x -> x.mend(11, 0, 9) * 10 + x.of(11, 2), 19);
        EDGES.refused("mend(12, 0, 9)", x -> x.mend(12, 0, 9), BAD);
        EDGES.inside("mend(11, 1, 1)", x -> x.mend(11, 1, 1), 60);
        EDGES.refused("mend(12, 1, 1)", x -> x.mend(12, 1, 1), BAD);
        EDGES.inside("may(11, 0, 0)", x -> x.may(11, 0, 0), 1);
        EDGES.refused("may(12, 0, 0)", x -> x.may(12, 0, 0), BAD);
        EDGES.inside("pass(20, 2049)", x -> x.pass(20, 2049), 10);
        EDGES.inside("of(11, 3) then", x -> x.pass(20, 2049) + x.of(11, 3) + x.of(11, 4), 10 + 1);
        EDGES.refused("pass(20, 4097)", x -> x.pass(20, 4097), BAD);
        EDGES.inside("tick(60), of(11, 6)", x -> x.tick(60) + x.of(11, 6), 120);
        EDGES.inside("day(0, 11, 0)", x -> x.day(0, 11, 0), 0);
        EDGES.refused("day(0, 12, 0)", x -> x.day(0, 12, 0), BAD);
    }

    private static void leavesOfAPerson() {
        EDGES.sentence("LEAVES (0 .. 59)");
        EDGES.of(Edges::rich);
        EDGES.inside("LEAVES 0", x -> x.of(x.person(1, 1), 0), 0);
        EDGES.inside("LEAVES 59", x -> x.of(x.person(5960, 1), 0), 59);
        EDGES.refusedFor("person, LEAVES 60 or more", (x, lr) -> x.person(lr, 1), BAD, 6000, 6060, 6061, 6099, 10000, MAX);
        EDGES.refusedFor("person, LEAVES below 0", (x, lr) -> x.person(lr, 1), BAD, -1, -40, -99, -100, -101, MIN);
    }

    private static void returnsOfAPerson() {
        EDGES.sentence("RETURNS (above LEAVES, 60 at most)");
        EDGES.of(Edges::rich);
        EDGES.inside("RETURNS just above LEAVES", x -> x.of(x.person(3031, 1), 1), 31);
        EDGES.inside("RETURNS 60", x -> x.of(x.person(3060, 1), 1), 60);
        EDGES.refusedFor("person, RETURNS not above LEAVES", (x, lr) -> x.person(lr, 1), BAD, 0, 3030, 3029, 3000, 5959);
        EDGES.refusedFor("person, RETURNS above 60", (x, lr) -> x.person(lr, 1), BAD, 61, 99, 3061, 3099, 5961);
    }

    private static void costOfAPerson() {
        EDGES.sentence("COST (1 .. 9)");
        EDGES.of(Edges::rich);
        EDGES.inside("COST 1", x -> x.of(x.person(1, 1), 2), 1);
        EDGES.inside("COST 9", x -> x.of(x.person(1, 9), 2), 9);
        EDGES.refusedFor("person, COST", (x, c) -> x.person(1, c), BAD, 0, 10, -1, MIN, MAX);
    }

    private static void peopleAreFullAtTwelve() {
        EDGES.sentence("A PERSON (lr: 100 LEAVES and RETURNS): the number. BAD, FULL: 12.");
        EDGES.of(x -> Edges.crowd(x, 11));
        EDGES.inside("a twelfth", x -> x.person(1, 1), 11);
        EDGES.inside("of the twelfth", x -> x.of(x.person(5960, 9), 1), 60);
        EDGES.of(x -> {
            Edges.rich(x);
            Edges.crowd(x, 9);
        });
        EDGES.refused("a 13th", x -> x.person(1, 1), FULL);
        EDGES.refused("a 13th", x -> x.person(5960, 9), FULL);
        EDGES.refused("a 13th, BAD ahead of FULL", x -> x.person(1, 0), BAD);
        EDGES.refused("a 13th, BAD ahead of FULL", x -> x.person(6060, 1), BAD);
        EDGES.refused("a 13th, BAD ahead of FULL", x -> x.person(-1, 1), BAD);
        EDGES.refused("of(12, 0)", x -> x.of(12, 0), BAD);
    }

    private static void peopleAreWithinAtFirst() {
        EDGES.sentence("within at first.");
        EDGES.of(Edges::rich);
        EDGES.inside("of a PERSON who comes late: within", x -> x.of(x.person(1, 1), 3), 1);
        EDGES.inside("of a PERSON who comes late: gone out", x -> x.of(x.person(1, 1), 4), 0);
        EDGES.inside("of a PERSON who comes late: cost", x -> x.of(x.person(1, 1), 6), 0);
        EDGES.inside("count(3)", x -> x.person(1, 1) + x.count(3), 3 + 2);
    }

    /** So many threes of LEAVES 0, RETURNS 1, COST 1, and the first bytes of one more. */
    private static void threes(ThreeThrough x, int shelf, int bytes) {
        int[] values = new int[bytes];
        for (int i = 0; i < bytes; i++) {
            values[i] = i % 3 == 0 ? 0 : 1;
        }
        Checks.bytes(x, shelf, values);
    }

    private static void peopleFromARowHowMany() {
        EDGES.sentence("PEOPLE FROM A ROW on a SHELF, from place i on, n (1 .. 12) of them: how many came.");
        EDGES.of(x -> threes(x, 5, 60));
        EDGES.insideFor("people(5, 0, n)", (x, n) -> x.people(5, 0, n) - n, 0, 1, 2, 11, 12);
        EDGES.insideFor("people(5, 0, n), count(0)", (x, n) -> x.people(5, 0, n) - x.count(0), 0, 1, 12);
        EDGES.refusedFor("people(5, 0, n)", (x, n) -> x.people(5, 0, n), BAD, 0, 13, -1, MIN, MAX);
        EDGES.refusedFor("people of a SHELF", (x, s) -> x.people(s, 0, 1), BAD, -1, 6, MIN, MAX);
        EDGES.of(x -> threes(x, 0, 3));
        EDGES.inside("people of SHELF 0", x -> x.people(0, 0, 1), 1);
    }

    private static void peopleFromARowNoBytes() {
        EDGES.sentence("BAD, -12 (no ROW of bytes; a SHELF that holds nothing is missing).");
        EDGES.of(Edges::rich);
        EDGES.refused("a BODY", x -> x.people(0, 0, 1), -12);
        EDGES.refusedFor("a ROW of another sort", (x, s) -> x.people(s, 0, 1), -12, 2, 3, 4);
        EDGES.refusedFor("a ROW of another sort, behind its end", (x, s) -> x.people(s, 60, 1), -12, 2, 3, 4);
        EDGES.refused("BAD ahead of -12", x -> x.people(0, 0, 0), BAD);
        EDGES.refused("BAD ahead of -12", x -> x.people(4, 0, 13), BAD);
        for (int sort = 1; sort <= 4; sort++) {
            int other = sort;
            EDGES.of(x -> x.row(0, other, 60));
            EDGES.refused("a ROW of sort " + sort, x -> x.people(0, 0, 1), -12);
            EDGES.of(x -> x.row(0, other, 0));
            EDGES.refused("an empty ROW of sort " + sort, x -> x.people(0, 0, 1), -12);
        }
    }

    private static void peopleFromARowMissing() {
        EDGES.sentence("it ends where the row is missing");
        EDGES.of(Edges::rich);
        EDGES.refusedFor("people(5, i, 1)", (x, i) -> x.people(5, i, 1), 0, 0, 59, -1, MIN, MAX);
        EDGES.refused("people(5, 0, 12)", x -> x.people(5, 0, 12), 0);
        EDGES.refused("people(5, 0, 13)", x -> x.people(5, 0, 13), BAD);
        EDGES.of(x -> {
            threes(x, 5, 3);
            x.keep(5, -1);
        });
        EDGES.refused("a SHELF that holds nothing any more", x -> x.people(5, 0, 1), 0);
    }

    private static void peopleFromARowThatEnds() {
        EDGES.sentence("ends (within a three, too)");
        for (int bytes = 0; bytes <= 9; bytes++) {
            int size = bytes;
            EDGES.of(x -> threes(x, 0, size));
            EDGES.inside("a row of " + size, x -> x.people(0, 0, 12), size / 3);
            EDGES.inside("a row of " + size + ", count(0)", x -> x.people(0, 0, 12) - x.count(0), 0);
        }
        for (int bytes = 0; bytes <= 2; bytes++) {
            int size = bytes;
            EDGES.of(x -> threes(x, 0, size));
            EDGES.refused("a row of " + size, x -> x.people(0, 0, 12), 0);
        }
    }

    private static void peopleFromARowFromAPlace() {
        EDGES.sentence("from place i on: by threes LEAVES, RETURNS, COST: n of them");
        EDGES.of(x -> Checks.bytes(x, 0, 9, 1, 2, 3, 4, 5, 6));
        EDGES.inside("from 1", x -> x.people(0, 1, 12), 2);
        EDGES.inside("from 1, LEAVES of the first", x -> x.people(0, 1, 1) * x.of(0, 0), 1);
        EDGES.inside("from 1, RETURNS of the first", x -> x.people(0, 1, 1) * x.of(0, 1), 2);
        EDGES.inside("from 1, COST of the first", x -> x.people(0, 1, 1) * x.of(0, 2), 3);
        EDGES.inside("from the last three", x -> x.people(0, 4, 1), 1);
        EDGES.inside("from the last three, COST", x -> x.people(0, 4, 1) * x.of(0, 2), 6);
        EDGES.refusedFor("from a place", (x, i) -> x.people(0, i, 12), 0, 5, 6, 7, 8, MAX - 3, MAX - 2, MAX - 1, MAX);
        EDGES.refusedFor("from a place below 0", (x, i) -> x.people(0, i, 12), 0, -1, -2, -3, MIN, MIN + 1, MIN + 2);
    }

    private static void threeIs(String what, int leaves, int returns, int cost, int came) {
        EDGES.of(x -> Checks.bytes(x, 0, 0, 1, 1, leaves, returns, cost, 0, 1, 1));
        EDGES.inside(what + ", between two that may be", x -> x.people(0, 0, 3), came == 1 ? 3 : 1);
        EDGES.inside(what + ", those ahead came", x -> x.people(0, 0, 3) - x.count(0), 0);
        if (came == 0) {
            EDGES.refused(what + ", first", x -> x.people(0, 3, 2), 0);
        }
    }

    private static void peopleFromARowNotAsTheyMayBe() {
        EDGES.sentence("one is not as it may be");
        threeIs("LEAVES 0", 0, 1, 1, 1);
        threeIs("LEAVES 59", 59, 60, 1, 1);
        threeIs("LEAVES 60", 60, 61, 1, 0);
        threeIs("LEAVES 60, RETURNS 60", 60, 60, 1, 0);
        threeIs("LEAVES -1", -1, 1, 1, 0);
        threeIs("LEAVES -1, RETURNS 101", -1, 101, 1, 0);
        threeIs("LEAVES -128", -128, 1, 1, 0);
        threeIs("RETURNS just above LEAVES", 30, 31, 1, 1);
        threeIs("RETURNS as LEAVES", 30, 30, 1, 0);
        threeIs("RETURNS 60", 30, 60, 1, 1);
        threeIs("RETURNS 61", 30, 61, 1, 0);
        threeIs("RETURNS 127", 30, 127, 1, 0);
        threeIs("RETURNS -1", 0, -1, 1, 0);
        threeIs("COST 1", 0, 1, 1, 1);
        threeIs("COST 0", 0, 1, 0, 0);
        threeIs("COST 9", 0, 1, 9, 1);
        threeIs("COST 10", 0, 1, 10, 0);
        threeIs("COST -1", 0, 1, -1, 0);
    }

    private static void peopleFromARowAreFull() {
        EDGES.sentence("or PEOPLE are FULL: those ahead came.");
        EDGES.of(x -> {
            threes(x, 0, 9);
            Edges.crowd(x, 10);
        });
        EDGES.inside("two more may come", x -> x.people(0, 0, 3), 2);
        EDGES.inside("then there are twelve", x -> x.people(0, 0, 3) + x.count(0), 2 + 12);
        EDGES.of(x -> {
            threes(x, 0, 9);
            Edges.crowd(x, 9);
        });
        EDGES.inside("three more may come", x -> x.people(0, 0, 3), 3);
        EDGES.of(x -> {
            Edges.rich(x);
            threes(x, 1, 9);
            Edges.crowd(x, 9);
        });
        EDGES.refused("none more may come", x -> x.people(1, 0, 3), 0);
        EDGES.refused("-12 though they are FULL", x -> x.people(0, 0, 3), -12);
        EDGES.refused("BAD though they are FULL", x -> x.people(1, 0, 13), BAD);
    }

    private static void mendWhatAndWhom() {
        EDGES.sentence("COST (what 0), RETURNS (1) of a PERSON, NUMBER (2) of a GATE becomes v: what it was. BAD.");
        EDGES.of(Edges::rich);
        EDGES.inside("COST of the last PERSON", x -> x.mend(2, 0, 1), 9);
        EDGES.inside("RETURNS of the last PERSON", x -> x.mend(2, 1, 50), 1);
        EDGES.inside("NUMBER of the last GATE", x -> x.mend(1, 2, 5), 1);
        EDGES.inside("NUMBER of the first GATE", x -> x.mend(0, 2, 5), 2);
        EDGES.refusedFor("what", (x, what) -> x.mend(0, what, 5), BAD, -1, 3, 10, MIN, MAX);
        EDGES.refusedFor("COST of nobody", (x, p) -> x.mend(p, 0, 5), BAD, -1, 3, 11, 12, MIN, MAX);
        EDGES.refusedFor("RETURNS of nobody", (x, p) -> x.mend(p, 1, 50), BAD, -1, 3, 11, 12, MIN, MAX);
        EDGES.refusedFor("NUMBER of no GATE", (x, g) -> x.mend(g, 2, 5), BAD, -1, 2, 3, MIN, MAX);
    }

    private static void mendCost() {
        EDGES.sentence("COST (1 .. 9)");
        EDGES.of(Edges::rich);
        EDGES.inside("becomes 1", x -> x.mend(0, 0, 1) * 10 + x.of(0, 2), 41);
        EDGES.inside("becomes 9", x -> x.mend(0, 0, 9) * 10 + x.of(0, 2), 49);
        EDGES.refusedFor("mend(0, 0, v)", (x, v) -> x.mend(0, 0, v), BAD, 0, 10, -1, MIN, MAX);
    }

    private static void mendReturns() {
        EDGES.sentence("RETURNS (above LEAVES, 60 at most)");
        EDGES.of(Edges::rich);
        EDGES.inside("becomes just above LEAVES", x -> x.mend(1, 1, 3) * 100 + x.of(1, 1), 3003);
        EDGES.inside("becomes 60", x -> x.mend(1, 1, 60) * 100 + x.of(1, 1), 3060);
        EDGES.refusedFor("mend(1, 1, v)", (x, v) -> x.mend(1, 1, v), BAD, 2, 1, 0, 61, -1, MIN, MAX);
        EDGES.of(x -> x.person(5960, 1));
        EDGES.inside("LEAVES 59: 60 to the same", x -> x.mend(0, 1, 60), 60);
        EDGES.refusedFor("LEAVES 59", (x, v) -> x.mend(0, 1, v), BAD, 59, 61);
    }

    private static void mendNumber() {
        EDGES.sentence("a NUMBER (1 .. 6)");
        EDGES.of(Edges::rich);
        EDGES.inside("becomes 1", x -> x.mend(0, 2, 1) * 10 + x.of(0, 10), 21);
        EDGES.inside("becomes 6", x -> x.mend(0, 2, 6) * 10 + x.of(0, 10), 26);
        EDGES.refusedFor("mend(0, 2, v)", (x, v) -> x.mend(0, 2, v), BAD, 0, 7, -1, MIN, MAX);
    }

    private static void ofWhatAndWhom() {
        EDGES.sentence("of a GATE: 10 NUMBER. BAD.");
        EDGES.of(Edges::rich);
        int[] want = {0, 1, 9, 1, 0, 1, 63};
        for (int k = 0; k < want.length; k++) {
            int what = k;
            EDGES.inside("of(2, " + what + ")", x -> x.of(2, what), want[what]);
            EDGES.refusedFor("of(p, " + what + ")", (x, p) -> x.of(p, what), BAD, -1, 3, 11, 12, MIN, MAX);
        }
        int[] ofOneOut = {0, 5, 4, 0, 1, 1, 6};
        for (int k = 0; k < ofOneOut.length; k++) {
            int what = k;
            EDGES.inside("of(0, " + what + "), who is out", x -> x.of(0, what), ofOneOut[what]);
        }
        EDGES.inside("of(0, 10)", x -> x.of(0, 10), 2);
        EDGES.inside("of(1, 10)", x -> x.of(1, 10), 1);
        EDGES.refusedFor("of(g, 10)", (x, g) -> x.of(g, 10), BAD, -1, 2, 3, MIN, MAX);
        EDGES.refusedFor("of(0, what)", (x, what) -> x.of(0, what), BAD, -1, 7, 8, 9, 11, MIN, MAX);
    }

    private static void ofWaitsNow() {
        EDGES.sentence("5 whether it WAITS NOW (1, 0; NOW 60: 0)");
        EDGES.of(x -> {
            x.gate(1);
            x.person(1, 1);
            x.person(1, 1);
            x.pass(0, 2);
        });
        EDGES.inside("within, NOW 59", x -> x.tick(59) * 10 + x.of(0, 5), 591);
        EDGES.inside("within, NOW 60", x -> x.tick(60) * 10 + x.of(0, 5), 600);
        EDGES.inside("out, NOW 59", x -> x.tick(59) * 10 + x.of(1, 5), 591);
        EDGES.inside("out, NOW 60", x -> x.tick(60) * 10 + x.of(1, 5), 600);
        EDGES.inside("NOW 60, then back", x -> {
            x.image();
            x.tick(60);
            return x.back() + x.of(0, 5);
        }, 1);
    }

    private static void waitsToGoOut() {
        EDGES.sentence("within (and it has not gone out in that day yet), from LEAVES on, to go out;");
        EDGES.of(x -> {
            x.gate(1);
            x.person(305, 2);
            x.person(60, 1);
            x.person(5960, 9);
        });
        EDGES.inside("LEAVES 3, NOW 2", x -> x.tick(2) * 10 + x.of(0, 5), 20);
        EDGES.inside("LEAVES 3, NOW 3", x -> x.tick(3) * 10 + x.of(0, 5), 31);
        EDGES.inside("LEAVES 3, NOW 3: it has cost", x -> x.tick(3) * 10 + x.of(0, 6), 30);
        EDGES.inside("LEAVES 3, NOW 4: it has cost", x -> x.tick(4) * 10 + x.of(0, 6), 42);
        EDGES.inside("LEAVES 0, NOW 0", x -> x.of(1, 5), 1);
        EDGES.inside("LEAVES 59, NOW 58", x -> x.tick(58) * 10 + x.of(2, 5), 580);
        EDGES.inside("LEAVES 59, NOW 59", x -> x.tick(59) * 10 + x.of(2, 5), 591);
        EDGES.inside("LEAVES 59, NOW 60: it has cost", x -> x.tick(60) * 10 + x.of(2, 6), 609);
        EDGES.inside("gone out ahead of LEAVES, in again", x -> {
            x.pass(0, 1);
            x.pass(1, 1);
            x.tick(3);
            return x.of(0, 5);
        }, 0);
    }

    private static void waitsToComeIn() {
        EDGES.sentence("out, from RETURNS on, to come in (once it is in again it stays).");
        EDGES.of(x -> {
            x.gate(1);
            x.person(305, 2);
            x.person(60, 1);
            x.person(59, 4);
            x.pass(0, 1);
            x.pass(0, 2);
            x.pass(0, 4);
        });
        EDGES.inside("RETURNS 5, NOW 4", x -> x.tick(4) * 10 + x.of(0, 5), 40);
        EDGES.inside("RETURNS 5, NOW 5", x -> x.tick(5) * 10 + x.of(0, 5), 51);
        EDGES.inside("RETURNS 5, NOW 5: it has cost", x -> x.tick(5) * 10 + x.of(0, 6), 50);
        EDGES.inside("RETURNS 5, NOW 6: it has cost", x -> x.tick(6) * 10 + x.of(0, 6), 62);
        EDGES.inside("RETURNS 60, NOW 59", x -> x.tick(59) * 10 + x.of(1, 5), 590);
        EDGES.inside("RETURNS 60, NOW 60: it has cost", x -> x.tick(60) * 10 + x.of(1, 6), 600);
        EDGES.inside("RETURNS 59, NOW 58", x -> x.tick(58) * 10 + x.of(2, 5), 580);
        EDGES.inside("RETURNS 59, NOW 59", x -> x.tick(59) * 10 + x.of(2, 5), 591);
        EDGES.inside("RETURNS 59, NOW 60: it has cost", x -> x.tick(60) * 10 + x.of(2, 6), 604);
        EDGES.inside("in again it stays", x -> {
            x.tick(6);
            x.pass(1, 1);
            x.tick(10);
            return x.of(0, 5) * 100 + x.of(0, 6);
        }, 2);
    }

    private static void passGateWayPeople() {
        EDGES.sentence("A PASSING (gs as of may()) of PEOPLE (bits): how many are within then. BAD (no such GATE, way, PEOPLE);");
        EDGES.of(Edges::rich);
        EDGES.inside("in by the first GATE", x -> x.pass(1, 3), 3);
        EDGES.inside("in by the last GATE", x -> x.pass(11, 2), 2);
        EDGES.refusedFor("no such way", (x, gs) -> x.pass(gs, 3), BAD, 2, 3, 9, 12, 19);
        EDGES.refusedFor("no such GATE", (x, gs) -> x.pass(gs, 3), BAD, 20, 21, 30, -1, -9, -10, MIN, MAX);
        EDGES.refusedFor("no such PEOPLE", (x, set) -> x.pass(1, set), BAD, 8, 9, 11, 4096, -1, MIN, MAX);
        EDGES.of(x -> {
            x.gate(6);
            Edges.crowd(x, 12);
        });
        EDGES.inside("the last six of twelve", x -> x.pass(0, 0xFC0), 6);
        EDGES.refusedFor("a 13th", (x, set) -> x.pass(0, set), BAD, 4096, 4096 + 31, 8191);
        EDGES.refused("all twelve", x -> x.pass(0, 4095), NOT);
    }

    private static void passAtTheEnd() {
        EDGES.sentence("STATE: NOW is 60;");
        EDGES.of(x -> {
            Edges.rich(x);
            x.tick(52);
        });
        EDGES.inside("NOW 59", x -> x.pass(1, 3), 3);
        EDGES.of(x -> {
            Edges.rich(x);
            x.tick(53);
        });
        EDGES.refused("NOW 60", x -> x.pass(1, 3), STATE);
        EDGES.refused("NOW 60, ahead of NOT", x -> x.pass(1, 1), STATE);
        EDGES.refused("NOW 60, behind BAD", x -> x.pass(2, 3), BAD);
        EDGES.refused("NOW 60, behind BAD", x -> x.pass(1, 8), BAD);
        EDGES.inside("NOW 60, then back", x -> x.back() + x.pass(1, 3), 1 + 3);
    }

    private static void passJustSoMany() {
        EDGES.sentence("a set of just as many PEOPLE as its NUMBER who are on that side and MAY.");
        for (int k = 1; k <= 6; k++) {
            int number = k;
            EDGES.of(x -> {
                x.gate(number);
                Edges.crowd(x, 12);
            });
            EDGES.inside("NUMBER " + number, x -> x.pass(0, (1 << number) - 1), 12 - number);
            EDGES.refused("one fewer than " + number, x -> x.pass(0, (1 << (number - 1)) - 1), NOT);
            EDGES.refused("one more than " + number, x -> x.pass(0, (2 << number) - 1), NOT);
        }
    }

    private static void passOnThatSide() {
        EDGES.sentence("NOT: it can't be (not just so many, not all on that side, one MAY not).");
        EDGES.of(x -> {
            x.gate(2);
            Edges.crowd(x, 4);
            x.pass(0, 3);
        });
        EDGES.inside("out: both within", x -> x.pass(0, 12), 0);
        EDGES.inside("in: both out", x -> x.pass(1, 3), 4);
        EDGES.refused("out: one within", x -> x.pass(0, 6), NOT);
        EDGES.refused("out: none within", x -> x.pass(0, 3), NOT);
        EDGES.refused("in: one out", x -> x.pass(1, 6), NOT);
        EDGES.refused("in: none out", x -> x.pass(1, 12), NOT);
    }

    private static void passMay() {
        EDGES.sentence("IN DEED: PASSINGS as told, TIME NOW (MAY; WAITING or not does not matter);");
        EDGES.of(x -> {
            x.gate(2);
            Edges.crowd(x, 4);
            Checks.tell(x, 0, "p<3&t=5");
            x.tick(5);
        });
        EDGES.inside("both MAY", x -> x.pass(0, 6), 2);
        EDGES.refused("one MAY not", x -> x.pass(0, 12), NOT);
        EDGES.inside("a TIME later nobody MAY", x -> x.tick(1) + x.pass(0, 6), 6 + NOT);
        EDGES.of(x -> {
            x.gate(2);
            Edges.crowd(x, 4);
            Checks.tell(x, 0, "p<3&t=5");
            x.tick(4);
        });
        EDGES.refused("a TIME ahead nobody MAY", x -> x.pass(0, 6), NOT);
        for (int g = 0; g < 3; g++) {
            int gate = g;
            EDGES.of(x -> {
                for (int i = 0; i < 3; i++) x.gate(1);
                Edges.crowd(x, 2);
                x.pass(0, 2);
                Checks.tell(x, 0, "g=" + gate + "&s=0");
            });
            EDGES.inside("out by GATE " + g, x -> x.pass(10 * gate, 1), 0);
            EDGES.refused("in by GATE " + g, x -> x.pass(10 * gate + 1, 2), NOT);
            EDGES.refused("out by another than GATE " + g, x -> x.pass(10 * ((gate + 1) % 3), 1), NOT);
            EDGES.inside("in by GATE " + g + " by another law", x -> {
                Checks.tell(x, 0, "g=" + gate + "&s=1");
                return x.pass(10 * gate + 1, 2);
            }, 2);
        }
    }

    private static void passWithoutWaiting() {
        EDGES.sentence("WAITING or not does not matter");
        EDGES.of(x -> {
            x.gate(1);
            x.person(5960, 1);
        });
        EDGES.inside("out ahead of LEAVES", x -> x.pass(0, 1), 0);
        EDGES.inside("in ahead of RETURNS", x -> x.pass(0, 1) + x.pass(1, 1), 1);
        EDGES.inside("out once more", x -> x.pass(0, 1) + x.pass(1, 1) + x.pass(0, 1), 1);
    }

    private static void tickHowLong() {
        EDGES.sentence("TICK n TIMES (1 .. 60): NOW.");
        EDGES.of(x -> Edges.crowd(x, 1));
        EDGES.insideFor("tick(n)", (x, n) -> x.tick(n) - n, 0, 1, 2, 59, 60);
        EDGES.insideFor("tick(n), count(2)", (x, n) -> x.tick(n) - x.count(2), 0, 1, 60);
        EDGES.refusedFor("tick(n)", (x, n) -> x.tick(n), BAD, 0, 61, -1, MIN, MAX);
    }

    private static void tickBehindTheEnd() {
        EDGES.sentence("STATE: it would be behind 60.");
        EDGES.of(Edges::rich);
        EDGES.inside("from 7 by 53", x -> x.tick(53), 60);
        EDGES.refusedFor("from 7", (x, n) -> x.tick(n), STATE, 54, 60);
        EDGES.refusedFor("from 7, BAD ahead of STATE", (x, n) -> x.tick(n), BAD, 61, MAX);
        EDGES.of(x -> {
            Edges.rich(x);
            x.tick(52);
        });
        EDGES.inside("from 59 by 1", x -> x.tick(1), 60);
        EDGES.refused("from 59 by 2", x -> x.tick(2), STATE);
        EDGES.of(x -> {
            Edges.rich(x);
            x.tick(53);
        });
        EDGES.refusedFor("from 60", (x, n) -> x.tick(n), STATE, 1, 60);
        EDGES.refusedFor("from 60, BAD ahead of STATE", (x, n) -> x.tick(n), BAD, 0, 61);
    }

    private static void tickTimeByTime() {
        EDGES.sentence("TICK: NOW is later, each PERSON who WAITS adds its COST, TIME by TIME.");
        EDGES.of(x -> {
            x.person(60, 9);
            x.person(3060, 2);
        });
        EDGES.inside("all TIMES at once", x -> x.tick(60) + x.of(0, 6), 60 + 540);
        EDGES.inside("from LEAVES on", x -> x.tick(60) + x.of(1, 6), 60 + 60);
        EDGES.inside("one by one", x -> {
            for (int i = 0; i < 60; i++) x.tick(1);
            return x.of(0, 6) + x.of(1, 6);
        }, 600);
    }
}
