/** Promises 23 to 25 (books). */
public final class BooksTest {
    private static final Checks CHECKS = new Checks("BooksTest");
    private static final int BAD = ThreeThrough.BAD, NOT = ThreeThrough.NOT, STATE = ThreeThrough.STATE;

    private BooksTest() {
    }

    public static void main(String[] args) {
        promises23To25BadInputs();
        promises23To25Refusals();
        promises23And24Judged();
        promise23FirstWrongTwo();
        promise25Turned();
        promise25TurnedNever();
        CHECKS.end();
    }

    private static void due(String call, long got, long want) {
        CHECKS.due(call, got, want);
    }

    private static void promises23To25BadInputs() {
        ThreeThrough x = Checks.withGates(3);
        Checks.bytes(x, 0);
        int[][] bad = {{-1, 0}, {6, 0}, {0, -1}, {0, 41}, {Integer.MIN_VALUE, 0}, {0, Integer.MIN_VALUE}};
        for (int[] one : bad) {
            due("judge(" + one[0] + ", " + one[1] + ")", x.judge(one[0], one[1]), BAD);
            due("within(" + one[0] + ", " + one[1] + ")", x.within(one[0], one[1]), BAD);
        }
        int[][] badTurned = {{-1, 0, 0}, {6, 0, 0}, {0, -1, 0}, {0, 41, 0}, {0, 100, 0}, {0, 605, 0}, {0, 0, 2}, {0, 0, -1}};
        for (int[] one : badTurned) {
            due("turned(" + one[0] + ", " + one[1] + ", " + one[2] + ")", x.turned(one[0], one[1], one[2]), BAD);
        }
        due("BAD ahead of -11: judge", x.judge(1, 41), BAD);
        due("BAD ahead of -11: turned", x.turned(1, 0, 2), BAD);
    }

    private static void promises23To25Refusals() {
        ThreeThrough x = Checks.withGates(3);
        x.body(0);
        x.keep(1, 0);
        x.row(2, 4, 2);
        x.row(3, 2, 0);
        for (int shelf = 0; shelf < 4; shelf++) {
            int want = shelf == 0 ? -11 : -12;
            due("judge(" + shelf + ", 5)", x.judge(shelf, 5), want);
            due("within(" + shelf + ", 5)", x.within(shelf, 5), want);
            due("turned(" + shelf + ", 5, 0)", x.turned(shelf, 5, 0), want);
            due("turned(" + shelf + ", 5, 1)", x.turned(shelf, 5, 1), want);
        }
    }

    private static void promises23And24Judged() {
        ThreeThrough x = Checks.withGates(3, 2);
        Checks.bytes(x, 0, 0, 3, 1, 2, 0, -3, 1, 2);
        due("judge(0, 5)", x.judge(0, 5), NOT);
        due("within(0, 5)", x.within(0, 5), 1);
        due("judge(0, 40)", x.judge(0, 40), NOT);
        due("within(0, 40)", x.within(0, 40), 36);
        due("judge(0, 4), too few within", x.judge(0, 4), 1);
        due("within(0, 4)", x.within(0, 4), STATE);
        due("judge(0, 2)", x.judge(0, 2), 0);
        x.put(0, 2, 0);
        x.put(0, 3, -3);
        due("judge(0, 5), nobody is out for the third", x.judge(0, 5), 2);
        Checks.bytes(x, 0, 1, 2, 0, -3);
        due("more than are out", x.judge(0, 9), 1);
        Checks.bytes(x, 0);
        due("an empty BOOK", x.judge(0, 7), NOT);
        due("within an empty BOOK", x.within(0, 7), 7);
        due("an empty BOOK of nobody", x.judge(0, 0), NOT);
        due("within an empty BOOK of nobody", x.within(0, 0), 0);
        Checks.bytes(x, 0, 1, 2, 0, 3);
        due("all go out", x.judge(0, 5), NOT);
        due("nobody is within", x.within(0, 5), 0);
        x.mend(0, 2, 4);
        Checks.bytes(x, 0, 0, 4);
        due("a NUMBER mended", x.judge(0, 7), NOT);
    }

    private static void promise23FirstWrongTwo() {
        ThreeThrough x = Checks.withGates(3, 2);
        int[][] wrong = {{2, 3}, {-1, 3}, {-128, 3}, {0, 2}, {0, 0}, {0, -2}, {0, 9}, {0, -128}, {1, 3}, {0}};
        for (int[] two : wrong) {
            int[] book = new int[4 + two.length];
            int[] good = {0, 3, 0, -3};
            System.arraycopy(good, 0, book, 0, 4);
            System.arraycopy(two, 0, book, 4, two.length);
            Checks.bytes(x, 0, book);
            due("a wrong third two of " + two[0], x.judge(0, 9), 2);
            due("within", x.within(0, 9), STATE);
        }
        Checks.bytes(x, 0, 5, 5, 0, 3, 6, 6);
        due("the first of several", x.judge(0, 9), 0);
    }

    private static void promise25Turned() {
        ThreeThrough x = Checks.withGates(3, 2);
        Checks.bytes(x, 0, 0, 3, 0, -3, 0, 3);
        due("judge(0, 9)", x.judge(0, 9), NOT);
        due("turned(0, 9, 0): out, out, out", x.turned(0, 9, 0), 1);
        due("turned(0, 9, 1)", x.turned(0, 9, 1), 1);
        due("turned(0, 909, 0)", x.turned(0, 909, 0), 0);
        due("turned(0, 909, 1)", x.turned(0, 909, 1), NOT);
        Checks.bytes(x, 1, 1, 2, 1, 2, 1, 2);
        due("turned(1, 808, 0)", x.turned(1, 808, 0), 0);
        due("turned(1, 608, 0)", x.turned(1, 608, 0), 2);
        due("turned(1, 608, 1), never the first", x.turned(1, 608, 1), 1);
        due("turned(1, 508, 0), others within", x.turned(1, 508, 0), 0);
        Checks.bytes(x, 2, 1, -2, 1, 2);
        due("a wrong BOOK mended", x.turned(2, 8, 0), 0);
        due("turned(2, 408, 0)", x.turned(2, 408, 0), 1);
        due("turned(2, 408, 1)", x.turned(2, 408, 1), 0);
        due("the BOOK stays", x.element(2, 1), -2);
    }

    private static void promise25TurnedNever() {
        ThreeThrough x = Checks.withGates(3);
        Checks.bytes(x, 0, 0, -3, 0);
        due("a two's end that lacks", x.turned(0, 306, 0), 0);
        Checks.bytes(x, 0, 0, -3, 1, 3);
        due("no such GATE", x.turned(0, 306, 1), NOT);
        Checks.bytes(x, 0, 0, -128);
        due("-128 turned", x.turned(0, 6, 0), 0);
        Checks.bytes(x, 0);
        due("an empty BOOK", x.turned(0, 606, 0), 0);
        due("an empty BOOK", x.turned(0, 606, 1), NOT);
    }
}
