/** The edges of A DAY, of BEST and of promises 13 to 15, sentence by sentence. */
public final class EdgesDaysTest {
    private static final Edges EDGES = new Edges("EdgesDaysTest");
    private static final int BAD = ThreeThrough.BAD, NOT = ThreeThrough.NOT, STATE = ThreeThrough.STATE;
    private static final int MIN = Integer.MIN_VALUE, MAX = Integer.MAX_VALUE;

    private EdgesDaysTest() {
    }

    public static void main(String[] args) {
        dayWayPersonWhat();
        sumWayWhat();
        daysAreInThought();
        numberOrMorePassOut();
        numberOrMorePassIn();
        thoseWhoMay();
        thoseWhoWait();
        outThenInGateByGate();
        longestWaitFirst();
        longestWaitFirstIn();
        mostCostFirst();
        likeOnesByNumber();
        noSumOfNumbers();
        sumsOfAnyGates();
        sumsAsOftenAsOneLikes();
        eachTimeAsItEnds();
        firstAndLastTimeOut();
        firstAndLastTimeIn();
        notWithinAtTheEnd();
        bestPeopleAndGates();
        bestOfNobody();
        bestGate0Alone();
        bestNumberAndPeople();
        bestAtTheLastTime();
        bestOutThenIn();
        bestAnyPassings();
        EDGES.end();
    }

    private static void gates(ThreeThrough x, int... numbers) {
        for (int number : numbers) {
            x.gate(number);
        }
    }

    /** PEOPLE by twos: 100 LEAVES and RETURNS, then COST. */
    private static void people(ThreeThrough x, int... twos) {
        for (int i = 0; i + 1 < twos.length; i += 2) {
            x.person(twos[i], twos[i + 1]);
        }
    }

    private static void dayWayPersonWhat() {
        EDGES.sentence("A DAY by a WAY (0 .. 2): when a PERSON goes out (what 0), comes in (1). BAD; NOT.");
        EDGES.of(Edges::rich);
        EDGES.insideFor("day(way, 1, 0)", (x, way) -> x.day(way, 1, 0), 2, 0, 1, 2);
        EDGES.insideFor("day(way, 1, 1)", (x, way) -> x.day(way, 1, 1), 30, 0, 1, 2);
        EDGES.insideFor("day(way, 2, 0)", (x, way) -> x.day(way, 2, 0), NOT, 0, 1, 2);
        EDGES.refusedFor("day(way, 0, 0)", (x, way) -> x.day(way, 0, 0), BAD, -1, 3, MIN, MAX);
        EDGES.refusedFor("day(0, p, 0)", (x, p) -> x.day(0, p, 0), BAD, -1, 3, 11, 12, MIN, MAX);
        EDGES.refusedFor("day(0, 0, what)", (x, what) -> x.day(0, 0, what), BAD, -1, 2, MIN, MAX);
        EDGES.of(x -> {
            gates(x, 6);
            Edges.crowd(x, 12);
        });
        EDGES.inside("the last of twelve", x -> x.day(2, 11, 0), 0);
        EDGES.refused("a 13th", x -> x.day(2, 12, 0), BAD);
    }

    private static void sumWayWhat() {
        EDGES.sentence("A DAY by a WAY: THE SUM (what 0), PASSINGS (1), how many are not within (2). BAD.");
        EDGES.of(Edges::rich);
        EDGES.insideFor("sum(way, 1)", (x, way) -> x.sum(way, 1), 4, 0, 1, 2);
        EDGES.insideFor("sum(way, 2)", (x, way) -> x.sum(way, 2), 0, 0, 1, 2);
        EDGES.insideFor("sum(way, 0), PERSON 2 waits all day", (x, way) -> x.sum(way, 0), 540, 0, 1, 2);
        EDGES.refusedFor("sum(way, 0)", (x, way) -> x.sum(way, 0), BAD, -1, 3, MIN, MAX);
        EDGES.refusedFor("sum(0, what)", (x, what) -> x.sum(0, what), BAD, -1, 3, MIN, MAX);
    }

    private static void daysAreInThought() {
        EDGES.sentence("A DAY by a WAY, in thought, all being within");
        EDGES.of(Edges::rich);
        EDGES.refusedFor("day(way, 0, 0), though it is out in deed", (x, way) -> x.day(way, 0, 0), 0, 0, 1, 2);
        EDGES.refusedFor("sum(way, 1)", (x, way) -> x.sum(way, 1), 4, 0, 1, 2);
        EDGES.of(x -> {
            Edges.rich(x);
            x.tick(53);
        });
        EDGES.refused("day(0, 0, 1), though NOW is 60", x -> x.day(0, 0, 1), 5);
    }

    private static void numberOrMorePassOut() {
        EDGES.sentence("if there are NUMBER or more, the first NUMBER of them pass;");
        for (int n = 0; n <= 12; n++) {
            int crowd = n;
            for (int k = 1; k <= 6; k++) {
                int number = k;
                EDGES.of(x -> {
                    gates(x, number);
                    Edges.crowd(x, crowd);
                });
                for (int way = 0; way < 3; way++) {
                    int keepers = way;
                    String call = crowd + " by " + number + ", WAY " + way;
                    EDGES.inside(call + ": PASSINGS", x -> x.sum(keepers, 1), crowd / number);
                    EDGES.inside(call + ": not within", x -> x.sum(keepers, 2), crowd / number * number);
                    EDGES.inside(call + ": THE SUM", x -> x.sum(keepers, 0), crowd % number * 60);
                }
            }
        }
    }

    private static void numberOrMorePassIn() {
        EDGES.sentence("then in likewise.");
        for (int n = 0; n <= 12; n++) {
            int returning = n;
            EDGES.of(x -> {
                gates(x, 3);
                for (int p = 0; p < 12; p++) x.person(p < returning ? 7 : 60, 1);
            });
            EDGES.inside(n + " come back by threes: PASSINGS", x -> x.sum(0, 1), 4 + returning / 3);
            EDGES.inside(n + " come back by threes: not within", x -> x.sum(0, 2), 12 - returning / 3 * 3);
            EDGES.inside(n + " come back by threes: THE SUM", x -> x.sum(0, 0), returning % 3 * 53);
        }
    }

    private static void thoseWhoMay() {
        EDGES.sentence("of those who WAIT for it and MAY, if there are NUMBER or more");
        for (int letThrough = 0; letThrough <= 7; letThrough++) {
            int letting = letThrough;
            EDGES.of(x -> {
                gates(x, 3);
                Edges.crowd(x, 7);
                Checks.tell(x, 0, "p<" + letting);
            });
            EDGES.inside(letting + " of seven MAY", x -> x.sum(0, 1), letting / 3);
        }
        EDGES.of(x -> {
            gates(x, 1);
            Edges.crowd(x, 1);
            Checks.tell(x, 0, "t=59");
        });
        EDGES.inside("it MAY at 59", x -> x.day(0, 0, 0), 59);
        EDGES.of(x -> {
            gates(x, 1);
            Edges.crowd(x, 1);
            Checks.tell(x, 0, "t>59");
        });
        EDGES.inside("it MAY never", x -> x.day(0, 0, 0), NOT);
    }

    private static void thoseWhoWait() {
        EDGES.sentence("of those who WAIT for it");
        EDGES.of(x -> {
            gates(x, 3);
            people(x, 60, 1, 60, 1, 3060, 1);
        });
        EDGES.inside("the third LEAVES at 30", x -> x.day(0, 0, 0), 30);
        EDGES.inside("the third LEAVES at 30: THE SUM", x -> x.sum(0, 0), 60);
        EDGES.inside("nobody RETURNS ahead of 60", x -> x.sum(0, 2), 3);
        EDGES.of(x -> {
            gates(x, 3);
            people(x, 60, 1, 60, 1, 5960, 1);
        });
        EDGES.inside("the third LEAVES at 59", x -> x.day(0, 0, 0), 59);
        EDGES.of(x -> {
            gates(x, 3);
            people(x, 4, 1, 3, 1, 5, 1);
        });
        EDGES.inside("the third RETURNS at 5", x -> x.day(0, 1, 1), 5);
        EDGES.inside("the third RETURNS at 5: THE SUM", x -> x.sum(0, 0), 1 + 2);
    }

    /** Who goes out by GATE 0 can come in at the same TIME; who goes out by GATE 1 finds GATE 0 gone by. */
    private static void outThenInGateByGate() {
        EDGES.sentence("TIME by TIME, GATE by GATE: out, again and again, as long as it can be:");
        EDGES.of(x -> {
            gates(x, 1, 1);
            people(x, 1, 1);
            Checks.tell(x, 0, "t>4&(s=0&g=0|s=1&g=1)");
        });
        EDGES.inside("out by the first: goes out", x -> x.day(0, 0, 0), 5);
        EDGES.inside("in by the second: comes in", x -> x.day(0, 0, 1), 5);
        EDGES.of(x -> {
            gates(x, 1, 1);
            people(x, 1, 1);
            Checks.tell(x, 0, "t>4&(s=0&g=1|s=1&g=0)");
        });
        EDGES.inside("out by the second: goes out", x -> x.day(0, 0, 0), 5);
        EDGES.inside("in by the first: comes in", x -> x.day(0, 0, 1), 6);
        EDGES.of(x -> {
            gates(x, 1);
            people(x, 1, 1);
            Checks.tell(x, 0, "t=59");
        });
        EDGES.inside("out and in at 59: comes in", x -> x.day(0, 0, 1), 59);
        EDGES.inside("out and in at 59: PASSINGS", x -> x.sum(0, 1), 2);
    }

    private static void longestWaitFirst() {
        EDGES.sentence("By WAY 0 those first who have waited longest (since LEAVES, or RETURNS, as told);");
        EDGES.of(x -> {
            gates(x, 2);
            people(x, 160, 9, 160, 9, 60, 1);
        });
        EDGES.inside("one TIME longer", x -> x.day(0, 2, 0), 1);
        EDGES.inside("the least number of the others", x -> x.day(0, 0, 0), 1);
        EDGES.inside("the other one", x -> x.day(0, 1, 0), NOT);
        EDGES.inside("by WAY 2 the same", x -> x.day(2, 2, 0), 1);
        EDGES.inside("by WAY 2 the same", x -> x.day(2, 1, 0), NOT);
        EDGES.inside("by WAY 1 COST alone", x -> x.day(1, 2, 0), NOT);
    }

    private static void longestWaitFirstIn() {
        EDGES.sentence("(since LEAVES, or RETURNS, as told)");
        EDGES.of(x -> {
            gates(x, 2);
            people(x, 5, 9, 5, 9, 4, 1, 60, 1);
            Checks.tell(x, 0, "!s|t>4");
        });
        EDGES.inside("one TIME longer", x -> x.day(0, 2, 1), 5);
        EDGES.inside("the least number of the others", x -> x.day(0, 0, 1), 5);
        EDGES.inside("the other one", x -> x.day(0, 1, 1), NOT);
        EDGES.inside("by WAY 1 COST alone", x -> x.day(1, 2, 1), NOT);
        EDGES.inside("by WAY 1 COST alone", x -> x.day(1, 1, 1), 5);
    }

    private static void mostCostFirst() {
        EDGES.sentence("by 1 those with most COST;");
        EDGES.of(x -> {
            gates(x, 1);
            people(x, 60, 8, 60, 9);
            Checks.tell(x, 0, "t>8");
        });
        EDGES.inside("all who can: 8", x -> x.day(1, 0, 0), 9);
        EDGES.of(x -> {
            gates(x, 2);
            people(x, 60, 8, 160, 9, 160, 9);
            Checks.tell(x, 0, "t>8");
        });
        EDGES.inside("one COST less, though it waited longer", x -> x.day(1, 0, 0), NOT);
        EDGES.inside("most COST", x -> x.day(1, 2, 0), 9);
        EDGES.inside("by WAY 0 the other way", x -> x.day(0, 0, 0), 9);
    }

    private static void likeOnesByNumber() {
        EDGES.sentence("Of like ones the least number.");
        EDGES.of(x -> {
            gates(x, 5);
            for (int i = 0; i < 9; i++) x.person(1, 3);
        });
        for (int way = 0; way < 3; way++) {
            int keepers = way;
            EDGES.inside("WAY " + way + ", the fifth", x -> x.day(keepers, 4, 0), 0);
            EDGES.inside("WAY " + way + ", the fifth comes in", x -> x.day(keepers, 4, 1), 1);
            EDGES.inside("WAY " + way + ", the sixth", x -> x.day(keepers, 5, 0), NOT);
        }
    }

    /** 5 or 6 go out, 3 or 5 of them come in: 2 or 1 are out then, as others want out at TIME 2. */
    private static void noSumOfNumbers() {
        EDGES.sentence("nobody goes out, if the count of those who would be out then is no sum of NUMBERS");
        EDGES.of(x -> {
            gates(x, 3, 5);
            Checks.tell(x, 0, "!(s&g=0)");
            people(x, 1, 1, 1, 1, 1, 1, 1, 1, 1, 1, 60, 1, 260, 1, 260, 1, 260, 1);
        });
        EDGES.inside("3 to 1 who are out: 4 is none", x -> x.day(2, 6, 0), NOT);
        EDGES.inside("by WAY 0 they go", x -> x.day(0, 6, 0), 2);
        EDGES.inside("by WAY 1 they go", x -> x.day(1, 6, 0), 2);
        EDGES.of(x -> {
            gates(x, 3, 5);
            Checks.tell(x, 0, "!(s&g=0)");
            people(x, 1, 1, 1, 1, 1, 1, 1, 1, 1, 1, 60, 1, 260, 1, 260, 1, 260, 1, 260, 1, 260, 1);
        });
        EDGES.inside("5 to 1 who are out: 6 is one", x -> x.day(2, 10, 0), 2);
        EDGES.of(x -> {
            gates(x, 5, 3);
            Checks.tell(x, 0, "!(s&g=0)");
            people(x, 1, 1, 1, 1, 1, 1, 60, 1, 60, 1, 260, 1, 260, 1, 260, 1, 260, 1, 260, 1);
        });
        EDGES.inside("5 to 2 who are out: 7 is none; 3 to 2: 5 is one", x -> x.day(2, 7, 0), 2);
        EDGES.inside("the last of the five", x -> x.day(2, 9, 0), NOT);
        EDGES.inside("by WAY 0 all five go", x -> x.day(0, 9, 0), 2);
    }

    private static void sumsOfAnyGates() {
        EDGES.sentence("(of any GATES, each as often as one likes; 0 is one)");
        EDGES.of(x -> {
            gates(x, 3, 5, 4);
            Checks.tell(x, 0, "g<2&!(s&g=0)");
            people(x, 1, 1, 1, 1, 1, 1, 1, 1, 1, 1, 60, 1, 260, 1, 260, 1, 260, 1);
        });
        EDGES.inside("4 by a third GATE that nobody MAY pass", x -> x.day(2, 6, 0), 2);
        EDGES.of(x -> {
            gates(x, 3, 5, 6);
            Checks.tell(x, 0, "g<2&!(s&g=0)");
            people(x, 1, 1, 1, 1, 1, 1, 1, 1, 1, 1, 60, 1, 260, 1, 260, 1, 260, 1);
        });
        EDGES.inside("4 is none still", x -> x.day(2, 6, 0), NOT);
    }

    private static void sumsAsOftenAsOneLikes() {
        EDGES.sentence("each as often as one likes;");
        EDGES.of(x -> {
            gates(x, 1);
            Edges.crowd(x, 12);
        });
        EDGES.inside("twelve times 1", x -> x.day(2, 11, 0), 0);
        EDGES.inside("twelve times 1: PASSINGS", x -> x.sum(2, 1), 12);
        EDGES.of(x -> {
            gates(x, 6);
            Edges.crowd(x, 12);
        });
        EDGES.inside("twice 6", x -> x.day(2, 11, 0), 0);
    }

    private static void eachTimeAsItEnds() {
        EDGES.sentence("Each TIME as it ends each who WAITS adds its COST to THE SUM.");
        EDGES.of(x -> people(x, 5960, 9));
        EDGES.inside("LEAVES 59, no GATES", x -> x.sum(0, 0), 9);
        EDGES.of(x -> people(x, 60, 1));
        EDGES.inside("LEAVES 0, no GATES", x -> x.sum(0, 0), 60);
        EDGES.of(x -> {
            for (int i = 0; i < 12; i++) x.person(1, 9);
        });
        EDGES.insideFor("the most it can be", (x, way) -> x.sum(way, 0), 12 * 9 * 60, 0, 1, 2);
        EDGES.of(x -> {
            gates(x, 1);
            people(x, 60, 9);
        });
        EDGES.inside("who goes at once adds nothing, RETURNS 60 neither", x -> x.sum(0, 0), 0);
        EDGES.of(x -> {
            gates(x, 1);
            people(x, 59, 7);
            Checks.tell(x, 0, "!s");
        });
        EDGES.inside("RETURNS 59, and MAY not", x -> x.sum(0, 0), 7);
        EDGES.of(x -> {
            gates(x, 1);
            people(x, 60, 7);
            Checks.tell(x, 0, "t=1");
        });
        EDGES.inside("one TIME late", x -> x.sum(0, 0), 7);
    }

    private static void firstAndLastTimeOut() {
        EDGES.sentence("Of a PERSON: when it goes out, comes in (NOT);");
        EDGES.of(x -> {
            gates(x, 1);
            people(x, 60, 1, 5960, 1);
        });
        EDGES.inside("goes out at 0", x -> x.day(0, 0, 0), 0);
        EDGES.inside("goes out at 59", x -> x.day(0, 1, 0), 59);
        EDGES.inside("comes in never", x -> x.day(0, 0, 1), NOT);
        EDGES.of(x -> {
            gates(x, 2);
            people(x, 60, 1);
        });
        EDGES.refused("goes out never", x -> x.day(0, 0, 0), NOT);
        EDGES.refused("comes in never", x -> x.day(0, 0, 1), NOT);
    }

    private static void firstAndLastTimeIn() {
        EDGES.sentence("when it goes out, comes in (NOT);");
        EDGES.of(x -> {
            gates(x, 1);
            people(x, 1, 1, 59, 1, 60, 1);
        });
        EDGES.inside("RETURNS 1", x -> x.day(0, 0, 1), 1);
        EDGES.inside("RETURNS 59", x -> x.day(0, 1, 1), 59);
        EDGES.inside("RETURNS 60", x -> x.day(0, 2, 1), NOT);
    }

    private static void notWithinAtTheEnd() {
        EDGES.sentence("how many are not within at the end.");
        EDGES.of(x -> {
            gates(x, 1);
            Edges.crowd(x, 12);
        });
        EDGES.inside("all twelve", x -> x.sum(0, 2), 12);
        EDGES.of(x -> {
            gates(x, 1);
            for (int i = 0; i < 12; i++) x.person(59, 1);
        });
        EDGES.inside("none of twelve", x -> x.sum(0, 2), 0);
        EDGES.inside("PASSINGS", x -> x.sum(0, 1), 24);
        EDGES.of(x -> gates(x, 1));
        EDGES.inside("nobody", x -> x.sum(0, 2), 0);
    }

    private static void bestPeopleAndGates() {
        EDGES.sentence("BEST. STATE: more than 5 PEOPLE, or no GATES.");
        EDGES.of(x -> {
            Edges.rich(x);
            Edges.crowd(x, 2);
        });
        // 2 MAY never go; 0 goes with one at 0 and waits from 5 to 30 for 1, who goes with one at 2.
        EDGES.refused("five PEOPLE", x -> x.best(), 9 * 60 + 4 * 25 + 2);
        EDGES.of(x -> {
            Edges.rich(x);
            Edges.crowd(x, 3);
        });
        EDGES.refused("six PEOPLE", x -> x.best(), STATE);
        EDGES.of(x -> {
            gates(x, 1);
            Edges.crowd(x, 12);
        });
        EDGES.refused("twelve PEOPLE", x -> x.best(), STATE);
        EDGES.of(x -> Edges.crowd(x, 5));
        EDGES.refused("no GATES", x -> x.best(), STATE);
        EDGES.of(x -> Edges.crowd(x, 6));
        EDGES.refused("six PEOPLE, no GATES", x -> x.best(), STATE);
        EDGES.of(x -> { });
        EDGES.refused("nobody, no GATES", x -> x.best(), STATE);
    }

    private static void bestOfNobody() {
        EDGES.sentence("BEST (at most 5 PEOPLE, GATE 0 alone)");
        EDGES.of(x -> gates(x, 1));
        EDGES.inside("nobody", x -> x.best(), 0);
        EDGES.of(x -> {
            gates(x, 1);
            people(x, 60, 1);
        });
        EDGES.inside("one", x -> x.best(), 0);
    }

    private static void bestGate0Alone() {
        EDGES.sentence("GATE 0 alone");
        EDGES.of(x -> {
            gates(x, 2, 1, 1);
            people(x, 60, 4);
        });
        EDGES.inside("one alone by twos", x -> x.best(), 240);
        EDGES.inside("by the other GATES it could go", x -> x.sum(0, 0), 0);
        EDGES.of(x -> {
            gates(x, 1, 6, 6);
            people(x, 60, 4);
        });
        EDGES.inside("one alone by ones", x -> x.best(), 0);
        EDGES.of(x -> {
            gates(x, 1, 1, 1);
            people(x, 60, 4);
            Checks.tell(x, 0, "g=0");
        });
        EDGES.inside("it MAY by GATE 0", x -> x.best(), 0);
        EDGES.of(x -> {
            gates(x, 1, 1, 1);
            people(x, 60, 4);
            Checks.tell(x, 0, "g");
        });
        EDGES.inside("it MAY by the others", x -> x.best(), 240);
        EDGES.inside("best() once more", x -> x.best() + x.best(), 480);
    }

    private static void bestNumberAndPeople() {
        EDGES.sentence("the least SUM of all days in which at each TIME any PASSINGS of those who WAIT and MAY are made");
        for (int k = 1; k <= 6; k++) {
            int number = k;
            EDGES.of(x -> {
                gates(x, number);
                people(x, 60, 1, 60, 2, 60, 3, 60, 4, 60, 5);
            });
            // Who is left waits all day: those who COST least.
            int[] left = {0, 1, 1 + 2, 1, 0, 1 + 2 + 3 + 4 + 5};
            EDGES.inside("five by " + number, x -> x.best(), 60 * left[number - 1]);
        }
    }

    private static void bestAtTheLastTime() {
        EDGES.sentence("at each TIME any PASSINGS of those who WAIT and MAY are made");
        EDGES.of(x -> {
            gates(x, 1);
            people(x, 5860, 7);
            Checks.tell(x, 0, "t=59");
        });
        EDGES.inside("out at 59", x -> x.best(), 7);
        EDGES.of(x -> {
            gates(x, 1);
            people(x, 5860, 7);
            Checks.tell(x, 0, "t>59");
        });
        EDGES.inside("never out", x -> x.best(), 14);
        EDGES.of(x -> {
            gates(x, 1);
            people(x, 5, 7);
            Checks.tell(x, 0, "t=0|t=59");
        });
        EDGES.inside("out at 0, in at 59", x -> x.best(), 7 * 54);
    }

    private static void bestOutThenIn() {
        EDGES.sentence("(out, then in, each as often as one likes).");
        EDGES.of(x -> {
            gates(x, 1);
            people(x, 1, 1, 1, 1, 1, 1, 1, 1, 1, 1);
            Checks.tell(x, 0, "t=9");
        });
        EDGES.inside("five out and five in at one TIME", x -> x.best(), 5 * 9);
        EDGES.of(x -> {
            gates(x, 2);
            people(x, 1, 1, 1, 1, 1, 1, 1, 1);
            Checks.tell(x, 0, "t=9");
        });
        EDGES.inside("two and two", x -> x.best(), 4 * 9);
    }

    /** It is better not to let 0 and 1 out at once, but to wait for 2, who COSTS more. */
    private static void bestAnyPassings() {
        EDGES.sentence("the least SUM of all days");
        EDGES.of(x -> {
            gates(x, 2);
            people(x, 60, 1, 60, 1, 160, 9);
        });
        EDGES.inside("one waits a TIME, one all day", x -> x.best(), 1 + 60);
        EDGES.inside("as the keepers do", x -> x.sum(0, 0), 9 * 59);
        EDGES.of(x -> {
            gates(x, 2);
            people(x, 60, 1, 60, 1, 5960, 9);
        });
        EDGES.inside("not worth the wait", x -> x.best(), 9);
    }
}
