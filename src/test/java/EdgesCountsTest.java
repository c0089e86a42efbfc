/** The edges of what is told by counts and by chances: promises 16 to 22, sentence by sentence. */
public final class EdgesCountsTest {
    private static final Edges EDGES = new Edges("EdgesCountsTest");
    private static final int BAD = ThreeThrough.BAD, NOT = ThreeThrough.NOT;
    private static final int MIN = Integer.MIN_VALUE, MAX = Integer.MAX_VALUE;
    private static final long NO_FRACTION = Long.MIN_VALUE;
    /** w below 0, n above 40, w above n. */
    private static final int[] NO_WN = {-1, -40, -100, -101, 41, 42, 99, 4041, 4141, 100, 605, 4140, 10040, MIN, MAX};

    private EdgesCountsTest() {
    }

    public static void main(String[] args) {
        withinOfHowMany();
        noMoreWithinThanThereAre();
        soManyOnThatSide();
        reachOfMostPeople();
        reachWithoutGates();
        stepsToACount();
        stepsFewest();
        stepsNever();
        boatHowManyAboard();
        boatToACount();
        boatFewest();
        escortGateAndHowMany();
        escortWhat();
        escortFewest();
        soonHowMany();
        soonSums();
        soonAtMostOnceATime();
        waitsGateAndTime();
        waitsHowManyLooks();
        waitsYIfNot();
        waitsTillNumberAreThere();
        waitsInLowestTerms();
        waitsBehindTheLastTime();
        drawnHowOften();
        drawnGate();
        drawnBelowComes();
        drawnSixtyTimesEach();
        drawnTheyGoAtOnce();
        drawnSeeds();
        EDGES.end();
    }

    private static void gates(int... numbers) {
        EDGES.of(x -> {
            for (int number : numbers) x.gate(number);
        });
    }

    /** Bits, one for each count. */
    private static long counts(int... each) {
        long bits = 0;
        for (int count : each) {
            bits |= 1L << count;
        }
        return bits;
    }

    private static void withinOfHowMany() {
        EDGES.sentence("By counts alone: w of n people are within (n 0 .. 40)");
        gates(1);
        EDGES.inside("reach(0)", x -> x.reach(0), counts(0));
        EDGES.inside("reach(40)", x -> x.reach(40), (1L << 41) - 1);
        EDGES.inside("reach(4040)", x -> x.reach(4040), (1L << 41) - 1);
        EDGES.inside("steps(0, 0)", x -> x.steps(0, 0), 0);
        EDGES.inside("steps(4040, 0)", x -> x.steps(4040, 0), 40);
        EDGES.inside("boat(0, 100)", x -> x.boat(0, 100), 0);
        EDGES.inside("boat(4040, 100)", x -> x.boat(4040, 100), 0);
        EDGES.of(Edges::rich);
        EDGES.refusedFor("reach", (x, wn) -> x.reach(wn), BAD, NO_WN);
        EDGES.refusedFor("steps to 0", (x, wn) -> x.steps(wn, 0), BAD, NO_WN);
        EDGES.refusedFor("boat to 0", (x, wn) -> x.boat(wn, 100), BAD, NO_WN);
    }

    private static void noMoreWithinThanThereAre() {
        EDGES.sentence("by counts (wn: 100 times w, and n; w no more than n).");
        EDGES.of(Edges::rich);
        for (int n = 0; n <= 40; n++) {
            int all = n;
            EDGES.inside("reach, all of " + n, x -> x.reach(101 * all), (1L << (all + 1)) - 1);
            EDGES.inside("reach, one more than " + n, x -> x.reach(101 * all + 100), BAD);
            EDGES.inside("steps, all of " + n, x -> x.steps(101 * all, all), 0);
            EDGES.inside("steps, one more than " + n, x -> x.steps(101 * all + 100, all), BAD);
            EDGES.inside("boat, all of " + n, x -> x.boat(101 * all, 100 + all), 0);
            EDGES.inside("boat, one more than " + n, x -> x.boat(101 * all + 100, 100 + all), BAD);
        }
    }

    private static void soManyOnThatSide() {
        EDGES.sentence("a PASSING by a GATE: w less its NUMBER, or more by it, if there are so many on that side.");
        gates(3);
        EDGES.inside("just so many within", x -> x.reach(303), counts(3, 0));
        EDGES.inside("one too few within", x -> x.reach(202), counts(2));
        EDGES.inside("just so many out", x -> x.reach(3), counts(0, 3));
        EDGES.inside("one too few out", x -> x.reach(2), counts(0));
        EDGES.inside("too few on either side", x -> x.reach(204), counts(2));
        EDGES.inside("enough out alone", x -> x.reach(205), counts(2, 5));
        EDGES.inside("enough within alone", x -> x.reach(305), counts(3, 0));
        gates(6);
        EDGES.inside("by 6, twelve out", x -> x.reach(12), counts(0, 6, 12));
        EDGES.inside("by 6, five within of ten", x -> x.reach(510), counts(5));
    }

    private static void reachOfMostPeople() {
        EDGES.sentence("REACH: counts within (bits) that can be.");
        gates(6);
        EDGES.inside("reach(4040)", x -> x.reach(4040), counts(40, 34, 28, 22, 16, 10, 4));
        EDGES.inside("reach(40)", x -> x.reach(40), counts(0, 6, 12, 18, 24, 30, 36));
        gates(6, 6, 4);
        EDGES.inside("reach(40), by twos", x -> x.reach(40), 0x15555555555L);
        gates(6, 5);
        EDGES.inside("reach(909): 9, 4 and 9, 3, 8, 2, 7, 1, 6, 0, 5", x -> x.reach(909), (1L << 10) - 1);
        EDGES.inside("reach(808): 8, 3 and 8, 2, 7, 1, 6, 0, 5; 4 lacks", x -> x.reach(808), (1L << 9) - 1 - counts(4));
        EDGES.inside("reach(505)", x -> x.reach(505), counts(5, 0));
    }

    private static void reachWithoutGates() {
        EDGES.sentence("REACH, as bits. BAD.");
        EDGES.inside("reach(0)", x -> x.reach(0), counts(0));
        EDGES.inside("reach(4040)", x -> x.reach(4040), counts(40));
        EDGES.refused("reach(41)", x -> x.reach(41), BAD);
    }

    private static void stepsToACount() {
        EDGES.sentence("STEPS to a count (0 .. n). BAD; NOT.");
        EDGES.of(Edges::rich);
        EDGES.inside("to 0", x -> x.steps(505, 0), 3);
        EDGES.inside("to n", x -> x.steps(5, 5), 3);
        EDGES.refusedFor("steps(505, to)", (x, to) -> x.steps(505, to), BAD, -1, 6, 40, MIN, MAX);
        EDGES.refusedFor("steps(0, to)", (x, to) -> x.steps(0, to), BAD, -1, 1);
        EDGES.refusedFor("steps(4040, to)", (x, to) -> x.steps(4040, to), BAD, -1, 41);
    }

    private static void stepsFewest() {
        EDGES.sentence("STEPS: the fewest PASSINGS to a count; NOT.");
        gates(1);
        EDGES.inside("all out one by one", x -> x.steps(4040, 0), 40);
        EDGES.inside("all in one by one", x -> x.steps(40, 40), 40);
        EDGES.inside("the count that is", x -> x.steps(4040, 40), 0);
        gates(6, 5);
        EDGES.inside("as many as there are people: 4, 9, 3, 8, 2, 7, 1, 6, 0, 5", x -> x.steps(409, 5), 9);
        EDGES.inside("and back", x -> x.steps(509, 4), 9);
        EDGES.inside("one fewer", x -> x.steps(409, 0), 8);
    }

    private static void stepsNever() {
        EDGES.sentence("the fewest PASSINGS to a count; NOT.");
        gates(2);
        EDGES.inside("steps(404, 2)", x -> x.steps(404, 2), 1);
        EDGES.refused("steps(404, 3)", x -> x.steps(404, 3), NOT);
        EDGES.refused("steps(4040, 39)", x -> x.steps(4040, 39), NOT);
        gates();
        EDGES.inside("no GATES, the count that is", x -> x.steps(4040, 40), 0);
        EDGES.refused("no GATES", x -> x.steps(4040, 39), NOT);
    }

    private static void boatHowManyAboard() {
        EDGES.sentence("(each takes 1 to b people, either way; b 1 .. 9)");
        EDGES.inside("b 1", x -> x.boat(909, 100), 9);
        EDGES.inside("b 9, nine", x -> x.boat(909, 900), 1);
        EDGES.inside("b 9, ten", x -> x.boat(1010, 900), 2);
        EDGES.inside("b 8, nine", x -> x.boat(909, 800), 2);
        EDGES.inside("b 9, one", x -> x.boat(909, 908), 1);
        EDGES.inside("b 9, nine in", x -> x.boat(9, 909), 1);
        EDGES.inside("b 9, ten in", x -> x.boat(10, 910), 2);
        EDGES.of(Edges::rich);
        EDGES.refusedFor("b 0", (x, bt) -> x.boat(909, bt), BAD, 0, 1, 9, 99);
        EDGES.refusedFor("b 10 and more", (x, bt) -> x.boat(909, bt), BAD, 1000, 1009, 1100, MAX);
        EDGES.refusedFor("b below 0", (x, bt) -> x.boat(909, bt), BAD, -1, -99, -100, -900, MIN);
    }

    private static void boatToACount() {
        EDGES.sentence("BOAT to a count (bt: 100 times b, and the count). BAD; NOT.");
        EDGES.of(Edges::rich);
        EDGES.inside("to 0", x -> x.boat(4040, 100), 0);
        EDGES.inside("to n", x -> x.boat(40, 140), 0);
        EDGES.refusedFor("behind n", (x, bt) -> x.boat(909, bt), BAD, 110, 199, 910, 999);
        EDGES.refusedFor("behind 40", (x, bt) -> x.boat(4040, bt), BAD, 141, 941);
        EDGES.refusedFor("behind 0", (x, bt) -> x.boat(0, bt), BAD, 101, 901);
    }

    private static void boatFewest() {
        EDGES.sentence("BOAT: the fewest trips");
        gates(6);
        EDGES.inside("by PASSINGS alone", x -> x.boat(4040, 104), 0);
        EDGES.inside("one trip", x -> x.boat(4040, 105), 1);
        EDGES.inside("three trips: 4 to 1", x -> x.boat(4040, 101), 3);
        EDGES.inside("a trip of three", x -> x.boat(4040, 301), 1);
        EDGES.inside("two trips of two at most", x -> x.boat(4040, 201), 2);
        EDGES.inside("too few for the GATE", x -> x.boat(505, 500), 1);
        EDGES.inside("either way", x -> x.boat(4040, 138), 2);
        gates();
        EDGES.inside("no GATES, forty by one", x -> x.boat(4040, 100), 40);
        EDGES.inside("no GATES, forty by nine", x -> x.boat(4040, 900), 5);
        EDGES.inside("no GATES, forty in by nine", x -> x.boat(40, 940), 5);
    }

    private static void escortGateAndHowMany() {
        EDGES.sentence("ESCORT (gn: 10 times the GATE and n): WALKERS (what 0), PASSINGS (1). BAD; NOT.");
        EDGES.of(Edges::rich);
        EDGES.inside("GATE 0, n 0", x -> x.escort(0, 1), 0);
        EDGES.inside("GATE 0, n 8", x -> x.escort(8, 1), 4);
        EDGES.inside("GATE 0, n 9", x -> x.escort(9, 1), NOT);
        EDGES.inside("GATE 1, n 0", x -> x.escort(10, 1), 0);
        EDGES.inside("GATE 1, n 9", x -> x.escort(19, 1), 9);
        EDGES.refusedFor("no such GATE", (x, gn) -> x.escort(gn, 0), BAD, 20, 29, 30, -1, -9, -10, MIN, MAX);
        gates(5, 3, 1);
        EDGES.inside("GATE 1, n 3", x -> x.escort(13, 1), 1);
        EDGES.inside("GATE 1, n 4", x -> x.escort(14, 1), NOT);
        EDGES.inside("GATE 2, n 1", x -> x.escort(21, 1), 1);
        EDGES.inside("GATE 2, n 9", x -> x.escort(29, 1), 9);
    }

    private static void escortWhat() {
        EDGES.sentence("WALKERS (what 0), PASSINGS (1). BAD; NOT.");
        EDGES.of(Edges::rich);
        EDGES.inside("escort(4, 0)", x -> x.escort(4, 0), 0);
        EDGES.inside("escort(4, 1)", x -> x.escort(4, 1), 2);
        EDGES.refusedFor("escort(4, what)", (x, what) -> x.escort(4, what), BAD, -1, 2, MIN, MAX);
        EDGES.refusedFor("escort(5, what), BAD ahead of NOT", (x, what) -> x.escort(5, what), BAD, -1, 2);
        EDGES.refusedFor("escort(5, what)", (x, what) -> x.escort(5, what), NOT, 0, 1);
    }

    /** WALKERS go out and come in again, so all PASSINGS together take n out: by NUMBER each. */
    private static void escortFewest() {
        EDGES.sentence("ESCORT: n people (0 .. 9) want out by a GATE, all within: the fewest WALKERS (0 .. 9)");
        for (int k = 1; k <= 6; k++) {
            int number = k;
            gates(number);
            for (int n = 0; n <= 9; n++) {
                int people = n;
                boolean can = n % number == 0;
                EDGES.inside(n + " by " + number + ": WALKERS", x -> x.escort(people, 0), can ? 0 : NOT);
                EDGES.inside(n + " by " + number + ": PASSINGS", x -> x.escort(people, 1), can ? people / number : NOT);
            }
        }
    }

    private static void soonHowMany() {
        EDGES.sentence("SOON: the least t (0 .. 60) so that n people (0 .. 60)");
        gates(1);
        EDGES.inside("soon(0)", x -> x.soon(0), 0);
        EDGES.inside("soon(1)", x -> x.soon(1), 1);
        EDGES.inside("soon(59)", x -> x.soon(59), 59);
        EDGES.inside("soon(60)", x -> x.soon(60), 60);
        EDGES.of(Edges::rich);
        EDGES.refusedFor("soon", (x, n) -> x.soon(n), BAD, -1, 61, 62, 64, MIN, MAX);
    }

    private static void soonSums() {
        EDGES.sentence("n is a sum of NUMBERS, each GATE's no more than t times; NOT.");
        gates(6);
        EDGES.inside("six", x -> x.soon(6), 1);
        EDGES.inside("sixty", x -> x.soon(60), 10);
        EDGES.refusedFor("no sum", (x, n) -> x.soon(n), NOT, 1, 5, 7, 59);
        gates(3, 5);
        EDGES.refusedFor("no sum", (x, n) -> x.soon(n), NOT, 1, 2, 4, 7);
        EDGES.inside("eight", x -> x.soon(8), 1);
        EDGES.inside("nine", x -> x.soon(9), 3);
        gates();
        EDGES.inside("no GATES, nobody", x -> x.soon(0), 0);
        EDGES.refusedFor("no GATES", (x, n) -> x.soon(n), NOT, 1, 60);
    }

    private static void soonAtMostOnceATime() {
        EDGES.sentence("if each GATE passes at most once a TIME, can be out in t TIMES");
        gates(6, 6, 6);
        EDGES.inside("three sixes", x -> x.soon(18), 1);
        EDGES.inside("four sixes", x -> x.soon(24), 2);
        EDGES.inside("ten sixes", x -> x.soon(60), 4);
        gates(1, 1, 1);
        EDGES.inside("sixty ones", x -> x.soon(60), 20);
        EDGES.inside("58 ones", x -> x.soon(58), 20);
        EDGES.inside("57 ones", x -> x.soon(57), 19);
        gates(1, 6);
        EDGES.inside("seven", x -> x.soon(7), 1);
        EDGES.inside("five", x -> x.soon(5), 5);
        EDGES.inside("sixty", x -> x.soon(60), 9);
    }

    private static void waitsGateAndTime() {
        EDGES.sentence("WAIT (gt: 100 times the GATE, and the TIME 0 .. 59): part 0 above, 1 below the line.");
        EDGES.of(Edges::rich);
        EDGES.insideFor("a TIME", (x, gt) -> x.waits(gt, 1, 0), 1, 0, 59, 100, 159);
        EDGES.insideFor("a TIME", (x, gt) -> x.waits(gt, 1, 1), 1, 0, 59, 100, 159);
        EDGES.refusedFor("no such TIME", (x, gt) -> x.waits(gt, 1, 0), NO_FRACTION, 60, 61, 99, 160, 199);
        EDGES.refusedFor("no such GATE", (x, gt) -> x.waits(gt, 1, 0), NO_FRACTION, 200, 259, 300, MAX);
        EDGES.refusedFor("below 0", (x, gt) -> x.waits(gt, 1, 0), NO_FRACTION, -1, -41, -59, -100, -141, MIN);
        chances("g=1&t=0?12;g=1&t=59?12;0", 2, 1);
        EDGES.inside("GATE 1 at TIME 0", x -> x.waits(100, 8, 0), 1);
        EDGES.inside("GATE 1 at TIME 1", x -> x.waits(101, 8, 0), 8);
        EDGES.inside("GATE 1 at TIME 58", x -> x.waits(158, 8, 0), 2);
        EDGES.inside("GATE 1 at TIME 59", x -> x.waits(159, 8, 0), 1);
        EDGES.inside("GATE 0 at TIME 0", x -> x.waits(0, 8, 0), 8);
        EDGES.inside("GATE 0 at TIME 59", x -> x.waits(59, 8, 0), 8);
        EDGES.sentence("Long.MIN_VALUE: BAD.");
        EDGES.of(Edges::rich);
        EDGES.refusedFor("part", (x, part) -> x.waits(0, 1, part), NO_FRACTION, -1, 2, MIN, MAX);
    }

    private static void waitsHowManyLooks() {
        EDGES.sentence("y TIMES (0 .. 8) being looked at");
        gates(1);
        EDGES.inside("y 0, above", x -> x.waits(0, 0, 0), 0);
        EDGES.inside("y 0, below", x -> x.waits(0, 0, 1), 1);
        EDGES.inside("y 1, above", x -> x.waits(0, 1, 0), 1);
        EDGES.inside("y 1, below", x -> x.waits(0, 1, 1), 1);
        EDGES.inside("y 8, above", x -> x.waits(0, 8, 0), 255);
        EDGES.inside("y 8, below", x -> x.waits(0, 8, 1), 128);
        EDGES.of(Edges::rich);
        EDGES.refusedFor("y", (x, y) -> x.waits(0, y, 0), NO_FRACTION, -1, 9, MIN, MAX);
        EDGES.refusedFor("y", (x, y) -> x.waits(0, y, 1), NO_FRACTION, -1, 9, MIN, MAX);
    }

    private static void chances(String text, int... numbers) {
        EDGES.of(x -> {
            for (int number : numbers) x.gate(number);
            Checks.tell(x, 1, text);
        });
    }

    private static void waitsYIfNot() {
        EDGES.sentence("y if not: a fraction in lowest terms (0 by 1).");
        chances("0", 1);
        for (int k = 0; k <= 8; k++) {
            int y = k;
            EDGES.inside("nobody comes, above", x -> x.waits(0, y, 0), y);
            EDGES.inside("nobody comes, below", x -> x.waits(0, y, 1), 1);
        }
    }

    private static void waitsTillNumberAreThere() {
        EDGES.sentence("the mean of the TIMES till NUMBER are there");
        for (int k = 1; k <= 6; k++) {
            int number = k;
            chances("12", number);
            EDGES.inside("all come, y one too few", x -> x.waits(0, number - 1, 0), number - 1);
            EDGES.inside("all come, y just enough", x -> x.waits(0, number, 0), number);
            EDGES.inside("all come, y 8", x -> x.waits(0, 8, 0), number);
            EDGES.inside("all come, below", x -> x.waits(0, 8, 1), 1);
        }
        chances("n=5?0;12", 6);
        EDGES.inside("the sixth never comes", x -> x.waits(0, 8, 0), 8);
        chances("n=6?0;12", 6);
        EDGES.inside("a seventh is not waited for", x -> x.waits(0, 8, 0), 6);
    }

    private static void waitsInLowestTerms() {
        EDGES.sentence("a fraction in lowest terms (0 by 1).");
        chances("1", 1);
        // 1 + 11/12, and so on up to the greatest line below it.
        EDGES.inside("y 2, above", x -> x.waits(0, 2, 0), 23);
        EDGES.inside("y 2, below", x -> x.waits(0, 2, 1), 12);
        EDGES.inside("y 8, above", x -> x.waits(0, 8, 0), 429981696L - 214358881L);
        EDGES.inside("y 8, below", x -> x.waits(0, 8, 1), 35831808L);
        chances("4", 1);
        EDGES.inside("1 + 2/3, above", x -> x.waits(0, 2, 0), 5);
        EDGES.inside("1 + 2/3, below", x -> x.waits(0, 2, 1), 3);
        chances("12", 6);
        EDGES.inside("0 by 1, above", x -> x.waits(0, 0, 0), 0);
        EDGES.inside("0 by 1, below", x -> x.waits(0, 0, 1), 1);
    }

    private static void waitsBehindTheLastTime() {
        EDGES.sentence("(TIMES behind 59 count on: 60, 61 ..)");
        chances("t>59?12;0", 1);
        EDGES.inside("from 59, y 1", x -> x.waits(59, 1, 0), 1);
        EDGES.inside("from 59, y 8", x -> x.waits(59, 8, 0), 2);
        EDGES.inside("from 58, y 8", x -> x.waits(58, 8, 0), 3);
        EDGES.inside("from 52, y 8", x -> x.waits(52, 8, 0), 8);
        chances("t=66?12;0", 2);
        EDGES.inside("the last TIME that can be looked at is 66", x -> x.waits(59, 8, 0), 8);
        chances("t>64?12;0", 2);
        EDGES.inside("at 65 and 66", x -> x.waits(59, 8, 0), 8);
        chances("t>63?12;0", 2);
        EDGES.inside("at 64 and 65", x -> x.waits(59, 8, 0), 7);
    }

    private static void drawnHowOften() {
        EDGES.sentence("DRAWN: k times (1 .. 30) by a SEED");
        chances("t=0?12;0", 1);
        EDGES.insideFor("drawn(7, k, 0)", (x, k) -> x.drawn(7, k, 0) - k, 0, 1, 2, 29, 30);
        EDGES.of(Edges::rich);
        EDGES.refusedFor("drawn(7, k, 0)", (x, k) -> x.drawn(7, k, 0), BAD, 0, 31, -1, MIN, MAX);
    }

    private static void drawnGate() {
        EDGES.sentence("DRAWN at a GATE. BAD.");
        chances("g=1?12;0", 1, 1);
        EDGES.inside("the first GATE", x -> x.drawn(7, 1, 0), 0);
        EDGES.inside("the last GATE", x -> x.drawn(7, 1, 1), 60);
        EDGES.of(Edges::rich);
        EDGES.refusedFor("drawn(7, 1, g)", (x, g) -> x.drawn(7, 1, g), BAD, -1, 2, 3, MIN, MAX);
    }

    /** Just below COMES one comes; at COMES nobody does. */
    private static void drawnBelowComes() {
        EDGES.sentence("z = z * 1103515245 + 12345 (an int; SEED at first): one comes, if (z >>> 8) % 12 is below COMES;");
        int[] seeds = {0, 1, 2, 3, 5, 7, 11, 100, 12345, -1, -2, -7, MIN, MAX, 1 << 30, 987654321};
        for (int seed : seeds) {
            long z = (seed * 1103515245L + 12345L) & 0xFFFFFFFFL;
            long twelfth = (z >> 8) % 12;
            chances("t=0?" + twelfth + ";0", 1);
            EDGES.inside("COMES as drawn, seed " + seed, x -> x.drawn(seed, 1, 0), 0);
            chances("t=0?" + (twelfth + 1) + ";0", 1);
            EDGES.inside("COMES one more, seed " + seed, x -> x.drawn(seed, 1, 0), 1);
        }
    }

    private static void drawnSixtyTimesEach() {
        EDGES.sentence("60 TIMES each from TIME 0");
        for (int k = 1; k <= 6; k++) {
            chances("12", k);
            EDGES.inside("all come, by " + k, x -> x.drawn(7, 1, 0), 60);
            EDGES.inside("all come thirty times, by " + k, x -> x.drawn(7, 30, 0), 1800);
        }
        chances("t=0?12;0", 1);
        EDGES.inside("TIME 0 alone", x -> x.drawn(7, 30, 0), 30);
        chances("t=59?12;0", 1);
        EDGES.inside("TIME 59 alone", x -> x.drawn(7, 30, 0), 30);
        chances("t>59?12;0", 1);
        EDGES.inside("no TIME 60", x -> x.drawn(7, 30, 0), 0);
        chances("t=59?12;0", 2);
        EDGES.inside("who is there at the end goes with nobody of the next time", x -> x.drawn(7, 30, 0), 0);
    }

    private static void drawnTheyGoAtOnce() {
        EDGES.sentence("as NUMBER are there they go at once (n is 0 then): how many go in all.");
        chances("n=0?12;0", 1);
        EDGES.inside("by 1", x -> x.drawn(7, 1, 0), 60);
        chances("n<2?12;0", 2);
        EDGES.inside("by 2", x -> x.drawn(7, 1, 0), 60);
        chances("n<2?12;0", 3);
        EDGES.inside("the third never comes", x -> x.drawn(7, 1, 0), 0);
        chances("t<59?12;0", 6);
        EDGES.inside("five of the last six", x -> x.drawn(7, 1, 0), 54);
    }

    private static void drawnSeeds() {
        EDGES.sentence("(an int; SEED at first)");
        gates(1);
        for (int seed : new int[] {0, 1, -1, MIN, MAX}) {
            int comes = 0;
            long z = seed;
            for (int i = 0; i < 1800; i++) {
                z = (z * 1103515245L + 12345L) & 0xFFFFFFFFL;
                comes += (z >> 8) % 12 < 6 ? 1 : 0;
            }
            int all = comes;
            EDGES.refused("drawn(" + seed + ", 30, 0)", x -> x.drawn(seed, 30, 0), all);
        }
    }
}
