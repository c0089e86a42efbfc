/** Counts the answers of a test that are not the ones due, and ends it. */
final class Checks {
    private final String test;
    private int looked;
    private int wrong;

    Checks(String test) {
        this.test = test;
    }

    void due(String call, long got, long want) {
        looked++;
        if (got != want) {
            wrong++;
            System.out.println(test + ": " + call + " answered " + got + ", due is " + want);
        }
    }

    void isTrue(String what, boolean holds) {
        looked++;
        if (!holds) {
            wrong++;
            System.out.println(test + ": " + what + " does not hold");
        }
    }

    void end() {
        System.out.println(test + ": " + looked + " looked at, " + wrong + " wrong");
        if (wrong != 0 || looked == 0) {
            System.exit(1);
        }
    }

    /** Feeds a text to THE TAPE and makes it a LAW. */
    static int tell(ThreeThrough x, int which, String text) {
        feed(x, text);
        return x.law(which);
    }

    static void feed(ThreeThrough x, String text) {
        for (int i = 0; i < text.length(); i++) {
            x.feed(text.charAt(i));
        }
    }

    /** An object with GATES of these NUMBERS. */
    static ThreeThrough withGates(int... numbers) {
        ThreeThrough x = new ThreeThrough();
        for (int number : numbers) {
            x.gate(number);
        }
        return x;
    }

    /** Puts a ROW of bytes on a SHELF. */
    static void bytes(ThreeThrough x, int shelf, int... values) {
        x.row(shelf, 0, values.length);
        for (int i = 0; i < values.length; i++) {
            x.put(shelf, i, values[i]);
        }
    }
}
