/** Promises 16 to 22 (by counts, by chances). */
public final class CountsTest {
    private static final Checks CHECKS = new Checks("CountsTest");
    private static final int BAD = ThreeThrough.BAD, NOT = ThreeThrough.NOT;
    private static final int[][] GATES = {{}, {1}, {2}, {3}, {6}, {4, 6}, {3, 5}, {6, 5}, {2, 4, 6}, {6, 4, 3}, {5, 5, 5}};

    private CountsTest() {
    }

    public static void main(String[] args) {
        promises16To18BadInputs();
        promise16Reach();
        promise17Steps();
        promise18Boat();
        promises16To18LikeModel();
        promise19Escort();
        promise20Soon();
        promise21Waits();
        promise21WaitsLikeModel();
        promise22Drawn();
        CHECKS.end();
    }

    private static void due(String call, long got, long want) {
        CHECKS.due(call, got, want);
    }

    private static Model modelWith(int... numbers) {
        Model m = new Model();
        for (int number : numbers) {
            m.gate(number);
        }
        return m;
    }

    private static void promises16To18BadInputs() {
        ThreeThrough x = Checks.withGates(3);
        for (int wn : new int[] {-1, -100, 41, 99, 100, 403, 4140, 4141, Integer.MIN_VALUE, Integer.MAX_VALUE}) {
            due("reach(" + wn + ")", x.reach(wn), BAD);
            due("steps(" + wn + ", 0)", x.steps(wn, 0), BAD);
            due("boat(" + wn + ", 100)", x.boat(wn, 100), BAD);
        }
        due("steps(505, 6)", x.steps(505, 6), BAD);
        due("steps(505, -1)", x.steps(505, -1), BAD);
        for (int bt : new int[] {-1, 0, 99, 106, 906, 1000, 1005, Integer.MIN_VALUE, Integer.MAX_VALUE}) {
            due("boat(505, " + bt + ")", x.boat(505, bt), BAD);
        }
    }

    private static void promise16Reach() {
        ThreeThrough x = Checks.withGates(3);
        due("reach(707)", x.reach(707), 1L << 7 | 1L << 4 | 1L << 1);
        due("reach(202), too few", x.reach(202), 1L << 2);
        due("reach(3)", x.reach(3), 1L | 1L << 3);
        due("reach(40)", x.reach(40), 0x9249249249L);
        x.gate(5);
        due("reach(606)", x.reach(606), 127);
        due("reach(404)", x.reach(404), 1L << 4 | 1L << 1);
        due("reach(4040)", x.reach(4040), (1L << 41) - 1);
    }

    private static void promise17Steps() {
        ThreeThrough x = Checks.withGates(3, 5);
        due("steps(707, 7)", x.steps(707, 7), 0);
        due("steps(707, 4)", x.steps(707, 4), 1);
        due("steps(707, 5), out by 5 and in by 3", x.steps(707, 5), 2);
        due("steps(4040, 0)", x.steps(4040, 0), 8);
        due("steps(404, 3)", x.steps(404, 3), NOT);
        due("steps(0, 0)", x.steps(0, 0), 0);
    }

    private static void promise18Boat() {
        ThreeThrough x = Checks.withGates(6);
        due("boat(4040, 104)", x.boat(4040, 104), 0);
        due("boat(4040, 103)", x.boat(4040, 103), 1);
        due("boat(4040, 101)", x.boat(4040, 101), 3);
        due("boat(4040, 301)", x.boat(4040, 301), 1);
        due("boat(4040, 201), 3 by twos", x.boat(4040, 201), 2);
        due("boat(505, 300)", x.boat(505, 300), 2);
        due("boat(0, 900)", x.boat(0, 900), 0);
        due("boat without GATES", new ThreeThrough().boat(4040, 900), 5);
    }

    private static void promises16To18LikeModel() {
        for (int[] gates : GATES) {
            Model m = modelWith(gates);
            for (int n : new int[] {0, 1, 5, 7, 12, 40}) {
                for (int w = 0; w <= n; w += n > 12 ? 7 : 1) {
                    ThreeThrough x = Checks.withGates(gates);
                    int wn = 100 * w + n;
                    due("reach(" + wn + ")", x.reach(wn), m.reach(wn));
                    for (int to = 0; to <= n; to++) {
                        due("steps(" + wn + ", " + to + ")", x.steps(wn, to), m.steps(wn, to));
                        for (int b = 1; b <= 9; b += 4) {
                            int bt = 100 * b + to;
                            due("boat(" + wn + ", " + bt + ")", x.boat(wn, bt), m.boat(wn, bt));
                        }
                    }
                }
            }
        }
    }

    private static void promise19Escort() {
        ThreeThrough one = Checks.withGates(4);
        for (int gn : new int[] {-1, 10, 20, Integer.MIN_VALUE}) {
            due("escort(" + gn + ", 0)", one.escort(gn, 0), BAD);
        }
        due("escort(8, 2)", one.escort(8, 2), BAD);
        due("escort(8, -1)", one.escort(8, -1), BAD);
        due("escort(8, 0)", one.escort(8, 0), 0);
        due("escort(8, 1)", one.escort(8, 1), 2);
        due("escort(0, 1)", one.escort(0, 1), 0);
        due("escort(6, 0)", one.escort(6, 0), NOT);
        due("escort(6, 1)", one.escort(6, 1), NOT);
        one.gate(3);
        due("escort(10, 1)", one.escort(10, 1), 0);
        due("escort(13, 1)", one.escort(13, 1), 1);
        due("escort(14, 0)", one.escort(14, 0), NOT);
        for (int number = 1; number <= 6; number++) {
            ThreeThrough x = Checks.withGates(5, number);
            Model m = modelWith(5, number);
            for (int n = 0; n <= 9; n++) {
                for (int what = 0; what < 2; what++) {
                    String call = "escort(" + (10 + n) + ", " + what + ") by " + number;
                    due(call, x.escort(10 + n, what), m.escort(10 + n, what));
                }
            }
        }
    }

    private static void promise20Soon() {
        ThreeThrough x = Checks.withGates(3, 5);
        for (int bad : new int[] {-1, 61, Integer.MIN_VALUE, Integer.MAX_VALUE}) {
            due("soon(" + bad + ")", x.soon(bad), BAD);
        }
        due("soon(0)", x.soon(0), 0);
        due("soon(8)", x.soon(8), 1);
        due("soon(7)", x.soon(7), NOT);
        due("soon(9)", x.soon(9), 3);
        due("soon(60), 5 and 9 times, 10 and 6 times", x.soon(60), 9);
        due("soon(60) by ones", Checks.withGates(1).soon(60), 60);
        due("soon(1) without GATES", new ThreeThrough().soon(1), NOT);
        for (int[] gates : GATES) {
            ThreeThrough one = Checks.withGates(gates);
            Model m = modelWith(gates);
            for (int n = 0; n <= 60; n++) {
                due("soon(" + n + ")", one.soon(n), m.soon(n));
            }
        }
    }

    private static void promise21Waits() {
        ThreeThrough x = Checks.withGates(1, 2);
        int[][] bad = {{-1, 1, 0}, {60, 1, 0}, {99, 1, 0}, {200, 1, 0}, {0, -1, 0}, {0, 9, 0}, {0, 1, 2}, {0, 1, -1},
            {Integer.MIN_VALUE, 1, 0}};
        for (int[] one : bad) {
            due("waits(" + one[0] + ", " + one[1] + ", " + one[2] + ")", x.waits(one[0], one[1], one[2]), Long.MIN_VALUE);
        }
        due("waits(0, 0, 0)", x.waits(0, 0, 0), 0);
        due("waits(0, 0, 1)", x.waits(0, 0, 1), 1);
        due("waits(0, 1, 0)", x.waits(0, 1, 0), 1);
        due("waits(0, 1, 1)", x.waits(0, 1, 1), 1);
        due("waits(0, 2, 0), 1 + 1/2", x.waits(0, 2, 0), 3);
        due("waits(0, 2, 1)", x.waits(0, 2, 1), 2);
        due("waits(100, 3, 0), 2 + 3/4", x.waits(100, 3, 0), 11);
        due("waits(100, 3, 1)", x.waits(100, 3, 1), 4);
        Checks.tell(x, 1, "12");
        due("surely: waits(100, 8, 0)", x.waits(100, 8, 0), 2);
        due("surely: waits(100, 8, 1)", x.waits(100, 8, 1), 1);
        Checks.tell(x, 1, "0");
        due("never: waits(100, 8, 0)", x.waits(100, 8, 0), 8);
        due("never: waits(100, 8, 1)", x.waits(100, 8, 1), 1);
        Checks.tell(x, 1, "t>61?12;0");
        due("TIMES behind 59: waits(159, 8, 0)", x.waits(159, 8, 0), 5);
        due("waits(59, 8, 0)", x.waits(59, 8, 0), 4);
        Checks.tell(x, 1, "n=0?12;1");
        due("n: waits(100, 3, 0), 1 + 1 + 11/12", x.waits(100, 3, 0), 35);
        due("n: waits(100, 3, 1)", x.waits(100, 3, 1), 12);
    }

    private static void promise21WaitsLikeModel() {
        String[] texts = {"", "5", "t%13", "n*3+1", "11-n", "t-55", "g*7+1", "(t+n)%12"};
        for (String text : texts) {
            for (int number = 1; number <= 6; number++) {
                ThreeThrough x = Checks.withGates(1, number);
                Model m = modelWith(1, number);
                Checks.feed(x, text);
                for (int i = 0; i < text.length(); i++) m.feed(text.charAt(i));
                due("law", x.law(1), m.law(1));
                for (int y = 0; y <= 8; y++) {
                    for (int gt : new int[] {100, 113, 159}) {
                        due("waits(" + gt + ", " + y + ", 0) by " + text, x.waits(gt, y, 0), m.waits(gt, y, 0));
                        due("waits(" + gt + ", " + y + ", 1) by " + text, x.waits(gt, y, 1), m.waits(gt, y, 1));
                    }
                }
            }
        }
    }

    private static void promise22Drawn() {
        ThreeThrough x = Checks.withGates(3, 1);
        int[][] bad = {{0, 0, 0}, {0, 31, 0}, {0, -1, 0}, {0, 1, 2}, {0, 1, -1}};
        for (int[] one : bad) {
            due("drawn(" + one[0] + ", " + one[1] + ", " + one[2] + ")", x.drawn(one[0], one[1], one[2]), BAD);
        }
        Checks.tell(x, 1, "12");
        due("all come", x.drawn(5, 30, 0), 1800);
        Checks.tell(x, 1, "0");
        due("nobody comes", x.drawn(5, 30, 0), 0);
        Checks.tell(x, 1, "n<2?12;0");
        due("a third never comes", x.drawn(5, 3, 0), 0);
        due("n is 0 as they go", x.drawn(5, 3, 1), 180);
        Checks.tell(x, 1, "t<2?12;0");
        due("each of the k times nobody is there at first", x.drawn(5, 30, 0), 0);
        Checks.tell(x, 1, "t>56?12;0");
        due("TIMES 57, 58, 59", x.drawn(5, 4, 0), 12);
        Model m = modelWith(3, 1);
        ThreeThrough untold = Checks.withGates(3, 1);
        for (int seed : new int[] {0, 1, -1, 7, Integer.MIN_VALUE, Integer.MAX_VALUE, 123456789}) {
            for (int k : new int[] {1, 2, 30}) {
                due("drawn(" + seed + ", " + k + ", 0)", untold.drawn(seed, k, 0), m.drawn(seed, k, 0));
                due("drawn(" + seed + ", " + k + ", 1)", untold.drawn(seed, k, 1), m.drawn(seed, k, 1));
            }
        }
    }
}
