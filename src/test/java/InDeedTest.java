/** Promises 11 and 12 (in deed), 26 and 27 (the image). */
public final class InDeedTest {
    private static final Checks CHECKS = new Checks("InDeedTest");
    private static final int BAD = ThreeThrough.BAD, NOT = ThreeThrough.NOT, STATE = ThreeThrough.STATE;

    private InDeedTest() {
    }

    public static void main(String[] args) {
        promise11Pass();
        promise11PassByLaw();
        promise12Tick();
        promises26And27Image();
        CHECKS.end();
    }

    private static void due(String call, long got, long want) {
        CHECKS.due(call, got, want);
    }

    private static void promise11Pass() {
        ThreeThrough x = Checks.withGates(2, 1);
        for (int i = 0; i < 3; i++) {
            x.person(5960, 1);
        }
        int[][] bad = {{2, 3}, {20, 3}, {-1, 3}, {0, 8}, {0, -1}, {0, Integer.MIN_VALUE}, {0, 9}};
        for (int[] one : bad) {
            due("pass(" + one[0] + ", " + one[1] + ")", x.pass(one[0], one[1]), BAD);
        }
        due("nobody", x.pass(0, 0), NOT);
        due("one too few", x.pass(0, 1), NOT);
        due("one too many", x.pass(0, 7), NOT);
        due("in, though within", x.pass(1, 3), NOT);
        due("out, nobody waiting", x.pass(0, 3), 1);
        due("of(0, 3)", x.of(0, 3), 0);
        due("of(2, 3)", x.of(2, 3), 1);
        due("one is out already", x.pass(0, 6), NOT);
        due("of(2, 3)", x.of(2, 3), 1);
        due("one is within still", x.pass(1, 6), NOT);
        due("in by the other GATE", x.pass(11, 2), 2);
        due("out again", x.pass(0, 6), 0);
        due("in", x.pass(1, 3), 2);
        x.tick(60);
        due("NOW 60", x.pass(11, 4), STATE);
        due("NOW 60, BAD", x.pass(11, 8), BAD);
        due("NOW 60, cannot be", x.pass(11, 3), STATE);
        due("count(3)", x.count(3), 2);
    }

    private static void promise11PassByLaw() {
        ThreeThrough x = Checks.withGates(2);
        x.person(1, 1);
        x.person(1, 2);
        Checks.tell(x, 0, "c=1|t>3|s");
        due("one MAY not", x.pass(0, 3), NOT);
        due("nobody went", x.count(3), 2);
        x.tick(4);
        due("both MAY", x.pass(0, 3), 0);
        Checks.tell(x, 0, "!s");
        due("nobody MAY come in", x.pass(1, 3), NOT);
        x.gate(1);
        Checks.tell(x, 0, "g=1&s");
        due("by another GATE", x.pass(11, 1), 1);
        due("the other way", x.pass(10, 1), NOT);
    }

    private static void promise12Tick() {
        ThreeThrough x = Checks.withGates(1);
        x.person(305, 2);
        x.person(1020, 7);
        due("tick(0)", x.tick(0), BAD);
        due("tick(-1)", x.tick(-1), BAD);
        due("tick(61)", x.tick(61), BAD);
        due("tick(3)", x.tick(3), 3);
        due("of(0, 6), LEAVES has not gone by", x.of(0, 6), 0);
        due("tick(1)", x.tick(1), 4);
        due("of(0, 6)", x.of(0, 6), 2);
        x.pass(0, 1);
        due("tick(1)", x.tick(1), 5);
        due("out, ahead of RETURNS", x.of(0, 6), 2);
        due("tick(2)", x.tick(2), 7);
        due("out, from RETURNS on", x.of(0, 6), 6);
        x.mend(0, 0, 9);
        due("tick(1)", x.tick(1), 8);
        due("COST mended", x.of(0, 6), 15);
        x.pass(1, 1);
        due("tick(53)", x.tick(53), STATE);
        due("count(2)", x.count(2), 8);
        due("tick(52)", x.tick(52), 60);
        due("in again", x.of(0, 6), 15);
        due("of(1, 6)", x.of(1, 6), 350);
        due("tick(1)", x.tick(1), STATE);
        due("tick(61)", x.tick(61), BAD);
    }

    private static void promises26And27Image() {
        ThreeThrough x = Checks.withGates(1);
        x.person(10, 3);
        due("back()", x.back(), STATE);
        x.tick(2);
        x.pass(0, 1);
        due("image()", x.image(), 2);
        x.pass(1, 1);
        x.tick(20);
        x.mend(0, 0, 4);
        x.person(1, 5);
        x.tick(2);
        x.pass(0, 2);
        due("count(3)", x.count(3), 1);
        due("back()", x.back(), 2);
        due("of(0, 3)", x.of(0, 3), 0);
        due("of(0, 4)", x.of(0, 4), 1);
        due("of(0, 6)", x.of(0, 6), 6);
        due("one that came since is within", x.of(1, 3), 1);
        due("one that came since has not gone out", x.of(1, 4), 0);
        due("one that came since has cost nothing", x.of(1, 6), 0);
        due("COST is not kept", x.of(0, 2), 4);
        due("changes are not kept", x.count(5), 1);
        x.tick(50);
        due("back() again", x.back(), 2);
        x.tick(1);
        due("image() anew", x.image(), 3);
        x.tick(5);
        due("back()", x.back(), 3);
        due("of(1, 6)", x.of(1, 6), 5);
    }
}
