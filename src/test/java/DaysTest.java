import java.util.Random;

/** Promises 13 to 15 (days in thought). */
public final class DaysTest {
    private static final Checks CHECKS = new Checks("DaysTest");
    private static final int BAD = ThreeThrough.BAD, NOT = ThreeThrough.NOT, STATE = ThreeThrough.STATE;

    private DaysTest() {
    }

    public static void main(String[] args) {
        promises13And14BadInputs();
        promise13LongestWaitFirst();
        promise13MostCostFirst();
        promise13SumsOnly();
        promise13GateByGate();
        promise13OutAndInAtOneTime();
        promise13AgainAndAgain();
        daysAreInThought();
        promise15Best();
        promise15BestByLaw();
        fewPeopleLikeModel();
        CHECKS.end();
    }

    private static void due(String call, long got, long want) {
        CHECKS.due(call, got, want);
    }

    private static void promises13And14BadInputs() {
        ThreeThrough x = Checks.withGates(1);
        x.person(1, 1);
        int[][] badDays = {{-1, 0, 0}, {3, 0, 0}, {0, 1, 0}, {0, -1, 0}, {0, 0, 2}, {0, 0, -1}};
        for (int[] one : badDays) {
            due("day(" + one[0] + ", " + one[1] + ", " + one[2] + ")", x.day(one[0], one[1], one[2]), BAD);
        }
        int[][] badSums = {{-1, 0}, {3, 0}, {0, 3}, {0, -1}};
        for (int[] one : badSums) {
            due("sum(" + one[0] + ", " + one[1] + ")", x.sum(one[0], one[1]), BAD);
        }
        ThreeThrough gateless = new ThreeThrough();
        gateless.person(5760, 4);
        for (int way = 0; way < 3; way++) {
            due("no GATES: day", gateless.day(way, 0, 0), NOT);
            due("no GATES: THE SUM", gateless.sum(way, 0), 12);
            due("no GATES: PASSINGS", gateless.sum(way, 1), 0);
            due("no GATES: not within", gateless.sum(way, 2), 0);
        }
    }

    private static void promise13LongestWaitFirst() {
        ThreeThrough x = Checks.withGates(2);
        x.person(10, 1);
        x.person(5, 9);
        x.person(110, 5);
        x.person(110, 5);
        x.person(110, 5);
        due("day(0, 1, 0)", x.day(0, 1, 0), 0);
        due("day(0, 2, 0)", x.day(0, 2, 0), 1);
        due("day(0, 3, 0)", x.day(0, 3, 0), 1);
        due("day(0, 4, 0), of like ones the least number", x.day(0, 4, 0), NOT);
        due("day(0, 1, 1), who has waited since RETURNS", x.day(0, 1, 1), 10);
        due("day(0, 0, 1)", x.day(0, 0, 1), 10);
        due("day(0, 3, 1)", x.day(0, 3, 1), 10);
        due("sum(0, 0)", x.sum(0, 0), 9 * 5 + 5 * 59);
        due("sum(0, 1)", x.sum(0, 1), 4);
        due("sum(0, 2)", x.sum(0, 2), 0);
    }

    private static void promise13MostCostFirst() {
        ThreeThrough x = Checks.withGates(2);
        x.person(60, 1);
        x.person(60, 1);
        x.person(60, 9);
        due("day(0, 2, 0)", x.day(0, 2, 0), NOT);
        due("sum(0, 0)", x.sum(0, 0), 540);
        due("day(1, 2, 0)", x.day(1, 2, 0), 0);
        due("day(1, 0, 0)", x.day(1, 0, 0), 0);
        due("day(1, 1, 0)", x.day(1, 1, 0), NOT);
        due("sum(1, 0)", x.sum(1, 0), 60);
        due("sum(1, 2)", x.sum(1, 2), 2);
    }

    /** GATES of 3 and 5, in by the second alone: 1 is out then, and 1 + 3 is no sum, 1 + 5 is. */
    private static void promise13SumsOnly() {
        ThreeThrough x = Checks.withGates(3, 5);
        Checks.tell(x, 0, "!(s&g=0)");
        for (int i = 0; i < 5; i++) {
            x.person(5, 1);
        }
        x.person(60, 1);
        for (int i = 0; i < 3; i++) {
            x.person(660, 1);
        }
        x.person(860, 1);
        x.person(860, 1);
        due("day(0, 4, 1)", x.day(0, 4, 1), 5);
        due("day(0, 6, 0)", x.day(0, 6, 0), 6);
        due("day(0, 9, 0)", x.day(0, 9, 0), NOT);
        due("sum(0, 0)", x.sum(0, 0), 104);
        due("sum(0, 1)", x.sum(0, 1), 4);
        due("sum(0, 2)", x.sum(0, 2), 4);
        due("day(2, 6, 0)", x.day(2, 6, 0), 8);
        due("day(2, 9, 0)", x.day(2, 9, 0), 8);
        due("sum(2, 0)", x.sum(2, 0), 6);
        due("sum(2, 1)", x.sum(2, 1), 4);
        due("sum(2, 2)", x.sum(2, 2), 6);
    }

    /** Out by GATE 1 alone and in by GATE 0 alone: who goes out late comes in a TIME later. */
    private static void promise13GateByGate() {
        ThreeThrough x = Checks.withGates(1, 2);
        Checks.tell(x, 0, "s+g=1");
        x.person(1, 1);
        x.person(304, 1);
        due("day(0, 0, 0)", x.day(0, 0, 0), 3);
        due("day(0, 0, 1)", x.day(0, 0, 1), 4);
        due("day(0, 1, 1)", x.day(0, 1, 1), 4);
        due("sum(0, 0)", x.sum(0, 0), 4);
        due("sum(0, 1)", x.sum(0, 1), 3);
    }

    private static void promise13OutAndInAtOneTime() {
        ThreeThrough x = Checks.withGates(1);
        Checks.tell(x, 0, "t>5");
        x.person(2, 1);
        x.person(9, 2);
        due("day(0, 0, 0)", x.day(0, 0, 0), 6);
        due("day(0, 0, 1)", x.day(0, 0, 1), 6);
        due("day(0, 1, 1)", x.day(0, 1, 1), 9);
        due("sum(0, 0)", x.sum(0, 0), 18);
        due("sum(0, 1)", x.sum(0, 1), 4);
        due("best()", x.best(), 18);
    }

    private static void promise13AgainAndAgain() {
        ThreeThrough x = Checks.withGates(1);
        for (int i = 0; i < 12; i++) {
            x.person(507, 1);
        }
        for (int way = 0; way < 3; way++) {
            due("the last of twelve goes out", x.day(way, 11, 0), 5);
            due("the last of twelve comes in", x.day(way, 11, 1), 7);
            due("nobody waits", x.sum(way, 0), 0);
            due("PASSINGS", x.sum(way, 1), 24);
        }
        x.mend(0, 2, 5);
        due("by fives: the tenth", x.day(0, 9, 0), 5);
        due("by fives: the eleventh", x.day(0, 10, 0), NOT);
        due("by fives: PASSINGS", x.sum(0, 1), 4);
    }

    private static void daysAreInThought() {
        ThreeThrough x = Checks.withGates(1);
        x.person(5, 3);
        x.tick(7);
        x.pass(0, 1);
        due("all being within at TIME 0", x.day(0, 0, 0), 0);
        due("sum(0, 0)", x.sum(0, 0), 0);
        due("best()", x.best(), 0);
        due("of(0, 3)", x.of(0, 3), 0);
        due("of(0, 6)", x.of(0, 6), 21);
        due("count(2)", x.count(2), 7);
        x.mend(0, 1, 60);
        due("a change counts", x.day(0, 0, 1), NOT);
        due("how many are not within", x.sum(0, 2), 1);
        x.undo();
        due("undone", x.day(0, 0, 1), 5);
    }

    /** To wait a TIME pays: 0 and 2 go together, instead of 0 and 1 at once. */
    private static void promise15Best() {
        ThreeThrough x = new ThreeThrough();
        due("no GATES", x.best(), STATE);
        x.gate(2);
        due("nobody", x.best(), 0);
        x.person(60, 1);
        x.person(60, 1);
        x.person(160, 9);
        due("sum(0, 0)", x.sum(0, 0), 531);
        due("sum(1, 0)", x.sum(1, 0), 531);
        due("best()", x.best(), 61);
        x.gate(1);
        due("GATE 0 alone", x.best(), 61);
        due("sum(0, 0) by both", x.sum(0, 0), 0);
        x.person(5960, 1);
        x.person(5960, 1);
        due("five PEOPLE", x.best(), 61);
        x.person(5960, 1);
        due("six PEOPLE", x.best(), STATE);
    }

    private static void promise15BestByLaw() {
        ThreeThrough x = Checks.withGates(1, 1);
        x.person(2, 3);
        Checks.tell(x, 0, "g=0&t=10&!s|g=0&t=20&s");
        due("as it MAY", x.best(), 3 * 10 + 3 * 10);
        Checks.tell(x, 0, "g");
        due("never by GATE 0", x.best(), 180);
    }

    private static void fewPeopleLikeModel() {
        String[] texts = {"1", "t%3=0", "s|t>4", "(t+p)%2", "t%4=p%4|s", "g=t%2|s=0", "!(s&t<40)", "c>t%9", "t<2|t>50"};
        Random random = new Random(15);
        for (int run = 0; run < 400; run++) {
            ThreeThrough x = new ThreeThrough();
            Model m = new Model();
            int gates = 1 + random.nextInt(3);
            for (int g = 0; g < gates; g++) {
                int number = 1 + random.nextInt(random.nextInt(3) == 0 ? 6 : 3);
                due("gate", x.gate(number), m.gate(number));
            }
            int people = random.nextInt(4) == 0 ? 12 : random.nextInt(6);
            for (int p = 0; p < people; p++) {
                int leaves = random.nextInt(random.nextBoolean() ? 60 : 6);
                int lr = 101 * leaves + 1 + random.nextInt(Math.min(60 - leaves, random.nextBoolean() ? 5 : 60));
                int cost = 1 + random.nextInt(9);
                due("person", x.person(lr, cost), m.person(lr, cost));
            }
            if (random.nextInt(4) != 0) {
                String text = texts[random.nextInt(texts.length)];
                Checks.feed(x, text);
                for (int i = 0; i < text.length(); i++) m.feed(text.charAt(i));
                due("law", x.law(0), m.law(0));
            }
            if (people <= 5) due("run " + run + " best()", x.best(), m.best());
            for (int way = 0; way < 3; way++) {
                for (int what = 0; what < 3; what++) {
                    due("run " + run + " sum(" + way + ", " + what + ")", x.sum(way, what), m.sum(way, what));
                }
                for (int p = 0; p < people; p++) {
                    due("run " + run + " day(" + way + ", " + p + ", 0)", x.day(way, p, 0), m.day(way, p, 0));
                    due("run " + run + " day(" + way + ", " + p + ", 1)", x.day(way, p, 1), m.day(way, p, 1));
                }
            }
        }
    }
}
