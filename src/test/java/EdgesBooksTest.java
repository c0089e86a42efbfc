/** The edges of BOOKS, of THE IMAGE and of CHANGES: promises 23 to 29, sentence by sentence. */
public final class EdgesBooksTest {
    private static final Edges EDGES = new Edges("EdgesBooksTest");
    private static final int BAD = ThreeThrough.BAD, NOT = ThreeThrough.NOT, STATE = ThreeThrough.STATE;
    private static final int MIN = Integer.MIN_VALUE, MAX = Integer.MAX_VALUE;

    private EdgesBooksTest() {
    }

    public static void main(String[] args) {
        judgeShelfAndPeople();
        judgeNoBook();
        withinShelfAndPeople();
        withinNoBook();
        turnedShelfAndPeople();
        turnedWhat();
        turnedNoBook();
        noSuchGate();
        notItsNumber();
        howManyWent();
        moreThanThereAreWithin();
        moreThanThereAreOut();
        endThatLacks();
        booksOfAnySize();
        firstTwoThatCannotBe();
        withinBehindIt();
        withinState();
        turnedEachByItself();
        turnedHowMany();
        turnedNever();
        turnedMostTwos();
        imageIsKept();
        imageKeepsNoMore();
        backThereIsNone();
        backPeopleThatCameSince();
        undoneLatestFirst();
        undoneNone();
        doneAgain();
        doneAgainNoneBehindAnother();
        refusedChangesAreNone();
        theSameIsNoChange();
        fortyAreKept();
        fortyOneByOne();
        fortyDoneAgain();
        EDGES.end();
    }

    /** GATES of these NUMBERS 3 and 2, and a BOOK on SHELF 0. */
    private static void book(int... bytes) {
        EDGES.of(x -> {
            x.gate(3);
            x.gate(2);
            Checks.bytes(x, 0, bytes);
        });
    }

    private static void judgeShelfAndPeople() {
        EDGES.sentence("JUDGED, of n people (0 .. 40). BAD, -11, -12 (no ROW of bytes); NOT.");
        EDGES.of(Edges::rich);
        EDGES.inside("judge(1, 0)", x -> x.judge(1, 0), 0);
        EDGES.inside("judge(1, 3)", x -> x.judge(1, 3), NOT);
        EDGES.inside("judge(1, 40)", x -> x.judge(1, 40), NOT);
        EDGES.refusedFor("judge(1, n)", (x, n) -> x.judge(1, n), BAD, -1, 41, MIN, MAX);
        EDGES.refusedFor("judge(shelf, 3)", (x, shelf) -> x.judge(shelf, 3), BAD, -1, 6, MIN, MAX);
        book();
        EDGES.inside("judge of SHELF 0", x -> x.judge(0, 3), NOT);
        EDGES.of(x -> x.row(5, 0, 0));
        EDGES.inside("judge of SHELF 5", x -> x.judge(5, 3), NOT);
    }

    private static void judgeNoBook() {
        EDGES.sentence("BAD, -11, -12 (no ROW of bytes); NOT.");
        EDGES.of(Edges::rich);
        EDGES.refused("nothing", x -> x.judge(5, 3), -11);
        EDGES.refused("a BODY", x -> x.judge(0, 3), -12);
        EDGES.refusedFor("a ROW of another sort", (x, shelf) -> x.judge(shelf, 3), -12, 2, 3, 4);
        EDGES.refusedFor("nothing, BAD ahead of -11", (x, n) -> x.judge(5, n), BAD, -1, 41);
        EDGES.refusedFor("a BODY, BAD ahead of -12", (x, n) -> x.judge(0, n), BAD, -1, 41);
        EDGES.of(x -> x.row(0, 2, 4));
        EDGES.refused("a ROW of ints", x -> x.judge(0, 3), -12);
    }

    private static void withinShelfAndPeople() {
        EDGES.sentence("WITHIN. BAD, -11, -12; STATE: JUDGED tells one.");
        EDGES.of(Edges::rich);
        EDGES.inside("within(1, 3)", x -> x.within(1, 3), 2);
        EDGES.inside("within(1, 40)", x -> x.within(1, 40), 39);
        EDGES.refused("within(1, 0)", x -> x.within(1, 0), STATE);
        EDGES.refusedFor("within(1, n)", (x, n) -> x.within(1, n), BAD, -1, 41, MIN, MAX);
        EDGES.refusedFor("within(shelf, 3)", (x, shelf) -> x.within(shelf, 3), BAD, -1, 6, MIN, MAX);
    }

    private static void withinNoBook() {
        EDGES.sentence("WITHIN. BAD, -11, -12;");
        EDGES.of(Edges::rich);
        EDGES.refused("nothing", x -> x.within(5, 3), -11);
        EDGES.refused("a BODY", x -> x.within(0, 3), -12);
        EDGES.refusedFor("a ROW of another sort", (x, shelf) -> x.within(shelf, 3), -12, 2, 3, 4);
        EDGES.refusedFor("nothing, BAD ahead of -11", (x, n) -> x.within(5, n), BAD, -1, 41);
        EDGES.of(x -> x.row(0, 2, 4));
        EDGES.refused("a ROW of ints", x -> x.within(0, 3), -12);
    }

    private static void turnedShelfAndPeople() {
        EDGES.sentence("TURNED (wn): how many (what 0), the first (1; NOT). BAD, -11, -12.");
        EDGES.of(Edges::rich);
        EDGES.inside("turned(1, 0, 0)", x -> x.turned(1, 0, 0), 0);
        EDGES.inside("turned(1, 4040, 0)", x -> x.turned(1, 4040, 0), 0);
        EDGES.inside("turned(1, 3540, 0), the third one", x -> x.turned(1, 3540, 0), 1);
        EDGES.refusedFor("turned(1, wn, 0)", (x, wn) -> x.turned(1, wn, 0), BAD, -1, -100, 41, 99, 100, 605, 4140, 4141, MIN, MAX);
        EDGES.refusedFor("turned(shelf, 3, 0)", (x, shelf) -> x.turned(shelf, 3, 0), BAD, -1, 6, MIN, MAX);
    }

    private static void turnedWhat() {
        EDGES.sentence("how many (what 0), the first (1; NOT).");
        EDGES.of(Edges::rich);
        EDGES.inside("what 0", x -> x.turned(1, 3540, 0), 1);
        EDGES.inside("what 1", x -> x.turned(1, 3540, 1), 2);
        EDGES.refused("what 1, none", x -> x.turned(1, 4040, 1), NOT);
        EDGES.refusedFor("what", (x, what) -> x.turned(1, 3540, what), BAD, -1, 2, MIN, MAX);
    }

    private static void turnedNoBook() {
        EDGES.sentence("BAD, -11, -12.");
        EDGES.of(Edges::rich);
        for (int k = 0; k <= 1; k++) {
            int what = k;
            EDGES.refused("nothing", x -> x.turned(5, 3, what), -11);
            EDGES.refused("a BODY", x -> x.turned(0, 3, what), -12);
            EDGES.refusedFor("a ROW of another sort", (x, shelf) -> x.turned(shelf, 3, what), -12, 2, 3, 4);
        }
        EDGES.refused("nothing, BAD ahead of -11", x -> x.turned(5, 3, 2), BAD);
        EDGES.refused("nothing, BAD ahead of -11", x -> x.turned(5, 41, 0), BAD);
        EDGES.refused("a BODY, BAD ahead of -12", x -> x.turned(0, 403, 0), BAD);
    }

    private static void judged(String what, int n, int want) {
        EDGES.inside(what + ": JUDGED", x -> x.judge(0, n), want);
        if (want != NOT) {
            EDGES.refused(what + ": WITHIN", x -> x.within(0, n), STATE);
        }
    }

    private static void noSuchGate() {
        EDGES.sentence("no such GATE, not its NUMBER, more than there are on that side;");
        book(0, 3);
        judged("GATE 0", 9, NOT);
        book(1, 2);
        judged("the last GATE", 9, NOT);
        for (int gate : new int[] {2, 3, 127, -1, -128}) {
            book(0, 3, gate, 1, 0, 3);
            judged("GATE " + gate, 9, 1);
        }
        EDGES.of(x -> Checks.bytes(x, 0, 0, 1));
        judged("no GATES at all", 9, 0);
    }

    private static void notItsNumber() {
        EDGES.sentence("not its NUMBER");
        for (int went : new int[] {3, 2, 4, 1, 0, -1}) {
            book(0, 3, 0, went);
            judged("out by 3: " + went, 9, went == 3 ? NOT : 1);
        }
        for (int went : new int[] {-3, -2, -4, -1, 0, 1}) {
            book(0, 3, 0, went);
            judged("in by 3: " + went, 9, went == -3 ? NOT : 1);
        }
        book(1, 3);
        judged("another GATE's NUMBER", 9, 0);
    }

    private static void howManyWent() {
        EDGES.sentence("by twos the GATE, and how many went (1 .. 9 out, -9 .. -1 in)");
        for (int k = 1; k <= 6; k++) {
            int number = k;
            for (int went : new int[] {-128, -10, -9, -7, -6, -5, -1, 0, 1, 5, 6, 7, 9, 10, 127}) {
                EDGES.of(x -> {
                    x.gate(number);
                    Checks.bytes(x, 0, 0, number, 0, number, 0, went);
                });
                boolean can = went == number || went == -number;
                judged(went + " by " + number, 40, can ? NOT : 2);
            }
        }
    }

    private static void moreThanThereAreWithin() {
        EDGES.sentence("more than there are on that side;");
        book(0, 3);
        judged("just so many within", 3, NOT);
        judged("one too few within", 2, 0);
        judged("nobody within", 0, 0);
        book(0, 3, 1, 2);
        judged("just so many are left", 5, NOT);
        judged("one too few are left", 4, 1);
        book(0, 3, 1, 2, 0, -3, 1, 2, 1, 2);
        judged("those who came in count", 6, NOT);
        judged("one too few for the last two", 5, 4);
    }

    private static void moreThanThereAreOut() {
        EDGES.sentence("more than there are on that side;");
        book(0, -3);
        judged("nobody is out", 40, 0);
        book(1, 2, 0, -3);
        judged("one too few are out", 40, 1);
        book(0, 3, 0, -3);
        judged("just so many are out", 40, NOT);
        book(1, 2, 1, 2, 0, -3);
        judged("more are out", 40, NOT);
        book(1, 2, 1, 2, 0, -3, 1, -2);
        judged("one is left out", 40, 3);
    }

    private static void endThatLacks() {
        EDGES.sentence("a two's end that lacks); NOT.");
        book(0);
        judged("one byte", 9, 0);
        EDGES.inside("one byte: turned", x -> x.turned(0, 909, 0), 0);
        book(0, 3, 0);
        judged("three bytes", 9, 1);
        EDGES.inside("three bytes: turned", x -> x.turned(0, 909, 1), NOT);
        book(5);
        judged("one byte, no such GATE", 9, 0);
    }

    /** Out and in by turns, as far as the row goes. */
    private static void byTurns(int bytes) {
        int[] values = new int[bytes];
        for (int i = 0; i < bytes; i++) {
            values[i] = i % 2 == 0 ? 0 : i % 4 == 1 ? 3 : -3;
        }
        book(values);
    }

    private static void booksOfAnySize() {
        EDGES.sentence("A BOOK: a ROW of bytes on a SHELF");
        byTurns(0);
        judged("no bytes", 0, NOT);
        judged("no bytes", 40, NOT);
        for (int bytes : new int[] {1, 2, 3, 4, 58, 59, 60}) {
            byTurns(bytes);
            judged(bytes + " bytes", 3, bytes % 2 == 0 ? NOT : bytes / 2);
        }
        EDGES.of(x -> {
            x.gate(3);
            x.row(0, 0, 60);
            for (int i = 0; i < 58; i += 2) x.put(0, i + 1, i % 4 == 0 ? 3 : -3);
            x.put(0, 59, 9);
        });
        judged("the last of thirty twos is wrong", 3, 29);
    }

    private static void firstTwoThatCannotBe() {
        EDGES.sentence("JUDGED, n people being all within at first: the first two that cannot be");
        book(0, 3, 9, 9, 0, -3, 9, 9);
        judged("the second, then the fourth", 9, 1);
        book(9, 9, 9, 9);
        judged("the first, then the second", 9, 0);
        book(0, 3, 0, -3, 0);
        judged("only the last lacks its end", 9, 2);
    }

    private static void withinBehindIt() {
        EDGES.sentence("WITHIN: how many are within behind it.");
        book();
        EDGES.inside("no bytes, nobody", x -> x.within(0, 0), 0);
        EDGES.inside("no bytes, forty", x -> x.within(0, 40), 40);
        book(0, 3);
        EDGES.inside("three of three", x -> x.within(0, 3), 0);
        EDGES.inside("three of forty", x -> x.within(0, 40), 37);
        book(0, 3, 0, -3);
        EDGES.inside("out and in", x -> x.within(0, 3), 3);
    }

    private static void withinState() {
        EDGES.sentence("STATE: JUDGED tells one.");
        book(0, 3, 1, 2);
        EDGES.inside("just so many", x -> x.within(0, 5), 0);
        EDGES.refused("one too few for the last two", x -> x.within(0, 4), STATE);
        EDGES.refused("too few for the first two", x -> x.within(0, 2), STATE);
        book(0, 3, 1);
        EDGES.refused("an end that lacks", x -> x.within(0, 9), STATE);
    }

    private static void turnedEachByItself() {
        EDGES.sentence("TURNED: which twos, each by itself told the other way round, let it be JUDGED NOT with w within at the end");
        book(0, 3, 0, 3);
        EDGES.inside("just so many for out, in", x -> x.turned(0, 303, 0), 1);
        EDGES.inside("the second", x -> x.turned(0, 303, 1), 1);
        EDGES.inside("others within at the end", x -> x.turned(0, 3, 0), 0);
        EDGES.inside("too few", x -> x.turned(0, 202, 0), 0);
        EDGES.inside("not turned at all it would fit", x -> x.turned(0, 6, 0), 0);
        book(0, -3);
        EDGES.inside("a wrong one turned", x -> x.turned(0, 3, 0), 1);
        EDGES.inside("the first", x -> x.turned(0, 3, 1), 0);
        book(0, -3, 0, -3);
        EDGES.inside("only one is turned at a time", x -> x.turned(0, 6, 0), 0);
        EDGES.inside("the first alone: out, in", x -> x.turned(0, 606, 1), 0);
        EDGES.refused("the BOOK stays as it is", x -> x.turned(0, 606, 0), 1);
    }

    private static void turnedHowMany() {
        EDGES.sentence("how many; the first; NOT.");
        book(1, 2, 1, 2, 1, 2);
        EDGES.inside("out, in, out or out, out, in", x -> x.turned(0, 608, 0), 2);
        EDGES.inside("the first of these", x -> x.turned(0, 608, 1), 1);
        EDGES.inside("just so many: four", x -> x.turned(0, 204, 0), 2);
        EDGES.inside("too few for out, out, in", x -> x.turned(0, 3, 0), 0);
        EDGES.inside("two: out, in, out", x -> x.turned(0, 2, 0), 1);
    }

    private static void turnedNever() {
        EDGES.sentence("the first; NOT.");
        book();
        EDGES.inside("no bytes: how many", x -> x.turned(0, 909, 0), 0);
        EDGES.refused("no bytes: the first", x -> x.turned(0, 909, 1), NOT);
        book(2, 3);
        EDGES.inside("no such GATE: how many", x -> x.turned(0, 909, 0), 0);
        EDGES.refused("no such GATE: the first", x -> x.turned(0, 909, 1), NOT);
        book(0, -128);
        EDGES.refused("-128", x -> x.turned(0, 909, 1), NOT);
        book(0, 0);
        EDGES.refused("0", x -> x.turned(0, 909, 1), NOT);
        book(0, -3, 0);
        EDGES.refused("an end that lacks", x -> x.turned(0, 603, 1), BAD);
        EDGES.refused("an end that lacks", x -> x.turned(0, 306, 1), NOT);
    }

    private static void turnedMostTwos() {
        EDGES.sentence("which twos, each by itself told the other way round");
        EDGES.of(x -> {
            x.gate(1);
            x.row(0, 0, 60);
            for (int i = 1; i < 60; i += 2) x.put(0, i, 1);
        });
        EDGES.inside("thirty go out, one of them comes in: how many", x -> x.turned(0, 1240, 0), 29);
        EDGES.inside("never the first", x -> x.turned(0, 1240, 1), 1);
        EDGES.inside("29 people: the last, too", x -> x.turned(0, 129, 0), 29);
        EDGES.inside("28 people: not the last", x -> x.turned(0, 28, 0), 28);
        EDGES.inside("27 people", x -> x.turned(0, 27, 0), 0);
        EDGES.of(x -> {
            x.gate(1);
            x.row(0, 0, 60);
            for (int i = 1; i < 60; i += 2) x.put(0, i, i % 4 == 1 ? 1 : -1);
            x.put(0, 59, 1);
        });
        EDGES.inside("the last of thirty alone", x -> x.turned(0, 101, 1), 29);
    }

    private static void imageIsKept() {
        EDGES.sentence("AN IMAGE is kept: NOW.");
        EDGES.inside("NOW 0", x -> x.image(), 0);
        EDGES.inside("NOW 60", x -> x.tick(60) + x.image(), 60 + 60);
        EDGES.inside("NOW 60, back to it", x -> x.tick(60) + x.image() + x.back(), 180);
        EDGES.inside("the latest counts", x -> {
            x.tick(5);
            x.image();
            x.tick(5);
            x.image();
            x.tick(5);
            return x.back();
        }, 10);
        EDGES.inside("an earlier NOW again", x -> {
            x.image();
            x.tick(60);
            return x.back() + x.tick(60);
        }, 60);
    }

    private static void imageKeepsNoMore() {
        EDGES.sentence("AN IMAGE keeps NOW, who is within, who has gone out, what waiting cost in deed.");
        EDGES.of(Edges::rich);
        EDGES.inside("NOW", x -> x.back(), 1);
        EDGES.inside("who is within", x -> x.pass(1, 3) + x.back() + x.count(3), 3 + 1 + 1);
        EDGES.inside("who has gone out", x -> {
            Checks.feed(x, "|1");
            x.law(0);
            x.pass(10, 4);
            int gone = x.of(2, 4);
            x.back();
            return 10 * gone + x.of(2, 4);
        }, 10);
        EDGES.inside("who had gone out has so still", x -> x.back() + x.of(0, 4), 1 + 1);
        EDGES.inside("what waiting cost", x -> x.back() + x.of(2, 6), 1 + 9);
        EDGES.inside("what waiting cost later is no more", x -> 100 * x.of(0, 6) + x.back() + x.of(0, 6), 600 + 1 + 2);
        EDGES.inside("COST stays", x -> x.back() + x.of(0, 2), 1 + 4);
        EDGES.inside("RETURNS stays", x -> x.back() + x.of(1, 1), 1 + 30);
        EDGES.inside("CHANGES stay", x -> x.back() + x.count(5), 1 + 2);
        EDGES.inside("what can be DONE AGAIN stays", x -> x.back() + x.redo() + x.of(1, 10), 1 + 3);
        EDGES.inside("THE TAPE stays", x -> x.back() + x.count(4), 1 + 3);
        EDGES.inside("the ROWS stay", x -> x.back() + x.element(2, 3), 1001);
        EDGES.inside("the IMAGE stays", x -> x.back() + x.tick(9) + x.back(), 1 + 10 + 1);
    }

    private static void backThereIsNone() {
        EDGES.sentence("NOW. STATE: there is none.");
        EDGES.refused("a new object", x -> x.back(), STATE);
        EDGES.of(x -> {
            x.gate(1);
            Edges.crowd(x, 2);
            x.pass(0, 1);
            x.tick(9);
        });
        EDGES.refused("no image() yet", x -> x.back(), STATE);
        EDGES.inside("behind image()", x -> x.image() + x.back(), 18);
    }

    private static void backPeopleThatCameSince() {
        EDGES.sentence("All that it keeps is as in THE IMAGE (PEOPLE that came since are within)");
        EDGES.of(x -> {
            x.gate(1);
            x.image();
            Edges.crowd(x, 12);
            x.pass(0, 1);
            x.pass(0, 2048);
            x.tick(9);
        });
        EDGES.inside("out", x -> x.count(3), 10);
        EDGES.inside("within then", x -> x.back() + x.count(3), 12);
        EDGES.inside("PEOPLE stay", x -> x.back() + x.count(0), 12);
        for (int k : new int[] {0, 1, 11}) {
            EDGES.inside("PERSON " + k + " is within", x -> x.back() + x.of(k, 3), 1);
            EDGES.inside("PERSON " + k + " has not gone out", x -> x.back() + x.of(k, 4), 0);
            EDGES.inside("PERSON " + k + " has cost nothing", x -> x.back() + x.of(k, 6), 0);
        }
    }

    private static void undoneLatestFirst() {
        EDGES.sentence("can be UNDONE, the latest first");
        EDGES.of(Edges::rich);
        EDGES.inside("the latest", x -> x.undo(), 1);
        EDGES.inside("RETURNS is as it was", x -> x.undo() + x.of(1, 1), 1 + 10);
        EDGES.inside("COST stays", x -> x.undo() + x.of(0, 2), 1 + 4);
        EDGES.inside("the one ahead of it", x -> x.undo() + x.undo(), 1);
        EDGES.inside("COST is as it was", x -> x.undo() + x.undo() + x.of(0, 2), 1 + 2);
        EDGES.inside("count(5)", x -> x.undo() + x.undo() + x.count(5), 1);
    }

    private static void undoneNone() {
        EDGES.sentence("UNDONE: how many may still be. STATE: none.");
        EDGES.refused("a new object", x -> x.undo(), STATE);
        EDGES.of(x -> {
            Edges.rich(x);
            x.undo();
            x.undo();
        });
        EDGES.refused("all are UNDONE", x -> x.undo(), STATE);
        EDGES.of(x -> {
            x.gate(1);
            Edges.crowd(x, 2);
            x.pass(0, 1);
            x.tick(3);
        });
        EDGES.refused("no mend() yet", x -> x.undo(), STATE);
        EDGES.inside("one", x -> x.mend(0, 0, 9) + x.undo(), 1);
    }

    private static void doneAgain() {
        EDGES.sentence("DONE AGAIN: how many may still be. STATE: none.");
        EDGES.refused("a new object", x -> x.redo(), STATE);
        EDGES.of(Edges::rich);
        EDGES.inside("the one that is UNDONE", x -> x.redo(), 0);
        EDGES.inside("NUMBER again", x -> x.redo() + x.of(1, 10), 3);
        EDGES.inside("count(5)", x -> x.redo() + x.count(5), 3);
        EDGES.inside("two UNDONE, one DONE AGAIN", x -> x.undo() + x.redo(), 1 + 1);
        EDGES.inside("RETURNS again", x -> x.undo() + x.redo() + x.of(1, 1), 1 + 1 + 30);
        EDGES.of(x -> {
            Edges.rich(x);
            x.redo();
        });
        EDGES.refused("all are DONE AGAIN", x -> x.redo(), STATE);
        EDGES.inside("UNDONE once more", x -> x.undo() + x.redo(), 2);
    }

    private static void doneAgainNoneBehindAnother() {
        EDGES.sentence("and DONE AGAIN (as long as no other came behind)");
        EDGES.of(x -> {
            Edges.rich(x);
            x.mend(0, 2, 5);
        });
        EDGES.refused("behind another", x -> x.redo(), STATE);
        EDGES.inside("count(5)", x -> x.count(5), 3);
        EDGES.inside("the other UNDONE and DONE AGAIN", x -> x.undo() + x.redo() + x.of(0, 10), 2 + 5);
        EDGES.of(x -> {
            Edges.rich(x);
            x.gate(6);
            x.person(1, 1);
            x.tick(1);
            x.back();
        });
        EDGES.inside("no other CHANGE", x -> x.redo(), 0);
    }

    private static void refusedChangesAreNone() {
        EDGES.sentence("What is answered so changes nothing.");
        EDGES.of(Edges::rich);
        EDGES.refused("mend(0, 0, 10)", x -> x.mend(0, 0, 10), BAD);
        EDGES.inside("redo() behind it", x -> x.mend(0, 0, 10) + x.redo(), BAD);
        EDGES.inside("count(5) behind it", x -> x.mend(0, 2, 7) + x.count(5), BAD + 2);
    }

    private static void theSameIsNoChange() {
        EDGES.sentence("CHANGES (COST, RETURNS of PEOPLE; NUMBER of GATES)");
        EDGES.of(Edges::rich);
        EDGES.refused("COST to the same", x -> x.mend(0, 0, 4), 4);
        EDGES.refused("RETURNS to the same", x -> x.mend(1, 1, 30), 30);
        EDGES.refused("NUMBER to the same", x -> x.mend(1, 2, 1), 1);
        EDGES.inside("COST to another", x -> x.mend(0, 0, 5) + x.count(5), 4 + 3);
        EDGES.inside("RETURNS to another", x -> x.mend(1, 1, 31) + x.count(5), 30 + 3);
        EDGES.inside("NUMBER to another", x -> x.mend(1, 2, 2) + x.count(5), 1 + 3);
    }

    /** PERSON 0's RETURNS becomes 2, 3, and so on. */
    private static void manyChanges(int n) {
        EDGES.of(x -> {
            x.gate(1);
            x.person(1, 1);
            for (int k = 1; k <= n; k++) x.mend(0, 1, k + 1);
        });
    }

    private static long undoAll(ThreeThrough x) {
        for (int k = 0; k < 60; k++) x.undo();
        return x.of(0, 1);
    }

    private static void fortyAreKept() {
        EDGES.sentence("40 at most are kept.");
        for (int k : new int[] {0, 1, 39, 40, 41, 42, 59}) {
            manyChanges(k);
            int kept = Math.min(k, 40);
            EDGES.inside(k + " CHANGES: count(5)", x -> x.count(5), kept);
            EDGES.inside(k + " CHANGES: undo()", x -> x.undo(), k == 0 ? STATE : kept - 1);
            EDGES.inside(k + " CHANGES, all UNDONE: RETURNS", x -> undoAll(x), k - kept + 1);
            EDGES.inside(k + " CHANGES, all UNDONE: count(5)", x -> undoAll(x) * 100 + x.count(5), (k - kept + 1) * 100);
        }
        EDGES.of(x -> {
            x.person(1, 1);
            for (int k = 1; k <= 41; k++) x.mend(0, 1, k + 1);
            for (int k = 0; k < 40; k++) x.undo();
        });
        EDGES.refused("a 41st UNDONE", x -> x.undo(), STATE);
    }

    private static void fortyOneByOne() {
        EDGES.sentence("can be UNDONE, the latest first, and DONE AGAIN");
        for (int n : new int[] {40, 41, 59}) {
            manyChanges(n);
            for (int k = 1; k <= 40; k++) {
                int undone = k;
                EDGES.inside(k + " of " + n + " UNDONE", x -> {
                    for (int i = 0; i < undone; i++) x.undo();
                    return x.of(0, 1);
                }, n + 1 - undone);
                EDGES.inside(k + " of " + n + " UNDONE, one DONE AGAIN", x -> {
                    for (int i = 0; i < undone; i++) x.undo();
                    return x.redo() * 100 + x.of(0, 1);
                }, (undone - 1) * 100 + n + 2 - undone);
            }
        }
    }

    private static void fortyDoneAgain() {
        EDGES.sentence("40 at most are kept.");
        EDGES.of(x -> {
            x.person(1, 1);
            for (int k = 1; k <= 45; k++) x.mend(0, 1, k + 1);
            for (int k = 0; k < 40; k++) x.undo();
        });
        EDGES.inside("the first DONE AGAIN", x -> x.redo(), 39);
        EDGES.inside("the first DONE AGAIN: RETURNS", x -> x.redo() + x.of(0, 1), 39 + 7);
        EDGES.inside("all DONE AGAIN: RETURNS", x -> {
            for (int k = 0; k < 40; k++) x.redo();
            return x.of(0, 1);
        }, 46);
        EDGES.inside("a 41st", x -> {
            for (int k = 0; k < 40; k++) x.redo();
            return x.redo();
        }, STATE);
        EDGES.inside("all but one DONE AGAIN, then another: count(5)", x -> {
            for (int k = 0; k < 39; k++) x.redo();
            x.mend(0, 1, 60);
            return x.count(5) * 100 + x.redo();
        }, 4000 + STATE);
        EDGES.inside("all DONE AGAIN, then another: count(5)", x -> {
            for (int k = 0; k < 40; k++) x.redo();
            x.mend(0, 1, 60);
            return x.count(5) * 100 + undoAll(x);
        }, 4000 + 7);
    }
}
