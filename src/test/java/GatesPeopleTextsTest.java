import java.util.Random;

/** Promises 1 to 10, and 28, 29 (changes undone and done again). */
public final class GatesPeopleTextsTest {
    private static final Checks CHECKS = new Checks("GatesPeopleTextsTest");
    private static final int BAD = ThreeThrough.BAD, FULL = ThreeThrough.FULL, STATE = ThreeThrough.STATE;

    private GatesPeopleTextsTest() {
    }

    public static void main(String[] args) {
        promise1NewObject();
        promise2Gate();
        promise3Person();
        promise4People();
        promise4PeopleEnd();
        promise5Mend();
        promise6Of();
        promise7Feed();
        promise8Law();
        promise8Faults();
        promise8FaultsLikeModel();
        textValues();
        promise9May();
        promise10Comes();
        promises28And29UndoRedo();
        promises28And29TheSameIsNoChange();
        promises28And29TheSameForgetsNone();
        promises28And29FortyAreKept();
        promises28And29FortyOfAllSortsAreKept();
        CHECKS.end();
    }

    private static void due(String call, long got, long want) {
        CHECKS.due(call, got, want);
    }

    private static void promise1NewObject() {
        ThreeThrough x = new ThreeThrough();
        for (int what = 0; what <= 7; what++) {
            due("new: count(" + what + ")", x.count(what), 0);
        }
        for (int shelf = 0; shelf < 6; shelf++) {
            due("new: taken(" + shelf + ", 0)", x.taken(shelf, 0), -11);
        }
        due("new: undo()", x.undo(), STATE);
        due("new: redo()", x.redo(), STATE);
        due("new: back()", x.back(), STATE);
        due("new: trace(0)", x.trace(0), BAD);
        due("new: law(0)", x.law(0), -100);
        due("VOID", ThreeThrough.VOID, -2000000000);
    }

    private static void promise2Gate() {
        ThreeThrough x = new ThreeThrough();
        for (int bad : new int[] {0, 7, -1, Integer.MIN_VALUE, Integer.MAX_VALUE}) {
            due("gate(" + bad + ")", x.gate(bad), BAD);
        }
        due("gate(1)", x.gate(1), 0);
        due("gate(6)", x.gate(6), 1);
        due("gate(6)", x.gate(6), 2);
        due("gate(3), a fourth", x.gate(3), FULL);
        due("gate(7), a fourth", x.gate(7), BAD);
        due("count(1)", x.count(1), 3);
        due("of(1, 10)", x.of(1, 10), 6);
    }

    private static void promise3Person() {
        ThreeThrough x = new ThreeThrough();
        int[][] bad = {{-1, 1}, {0, 1}, {61, 1}, {99, 1}, {505, 1}, {504, 1}, {6060, 1}, {5961, 1}, {1, 0}, {1, 10},
            {1, -1}, {Integer.MIN_VALUE, 1}, {Integer.MAX_VALUE, 1}, {-99, 1}};
        for (int[] one : bad) {
            due("person(" + one[0] + ", " + one[1] + ")", x.person(one[0], one[1]), BAD);
        }
        due("count(0)", x.count(0), 0);
        due("person(5960, 9)", x.person(5960, 9), 0);
        for (int i = 1; i < 12; i++) {
            due("person(60, 1)", x.person(60, 1), i);
        }
        due("person(60, 1), a 13th", x.person(60, 1), FULL);
        due("person(60, 0), a 13th", x.person(60, 0), BAD);
        due("of(0, 0)", x.of(0, 0), 59);
        due("of(0, 1)", x.of(0, 1), 60);
        due("of(0, 2)", x.of(0, 2), 9);
        due("of(11, 1)", x.of(11, 1), 60);
        due("count(3)", x.count(3), 12);
    }

    private static void promise4People() {
        ThreeThrough x = new ThreeThrough();
        due("people(6, 0, 1)", x.people(6, 0, 1), BAD);
        due("people(-1, 0, 1)", x.people(-1, 0, 1), BAD);
        due("people(0, 0, 0)", x.people(0, 0, 0), BAD);
        due("people(0, 0, 13)", x.people(0, 0, 13), BAD);
        due("people of nothing", x.people(0, 0, 1), 0);
        x.body(0);
        x.keep(0, 0);
        due("people of a BODY", x.people(0, 0, 1), -12);
        x.row(0, 2, 9);
        due("people of ints", x.people(0, 0, 1), -12);
        due("people of ints, n bad", x.people(0, 0, 13), BAD);
        Checks.bytes(x, 0, 7, 1, 2, 3, 4, 5, 6, 0, 60, 9);
        due("people(0, 1, 2)", x.people(0, 1, 2), 2);
        due("of(0, 0)", x.of(0, 0), 1);
        due("of(0, 1)", x.of(0, 1), 2);
        due("of(0, 2)", x.of(0, 2), 3);
        due("of(1, 2)", x.of(1, 2), 6);
        due("people(0, 1, 12), the row ends", x.people(0, 1, 12), 3);
        due("people(0, 7, 1)", x.people(0, 7, 1), 1);
        due("count(0)", x.count(0), 6);
        due("of(5, 1)", x.of(5, 1), 60);
    }

    private static void promise4PeopleEnd() {
        ThreeThrough x = new ThreeThrough();
        Checks.bytes(x, 0, 1, 2, 3, 4, 5);
        due("it ends within a three", x.people(0, 0, 5), 1);
        due("behind the row", x.people(0, 5, 5), 0);
        due("far behind the row", x.people(0, Integer.MAX_VALUE, 5), 0);
        due("ahead of the row", x.people(0, -1, 5), 0);
        due("far ahead of the row", x.people(0, Integer.MIN_VALUE, 5), 0);
        Checks.bytes(x, 1, 1, 2, 3, 4, 4, 5, 1, 2, 3);
        due("one is not as it may be", x.people(1, 0, 3), 1);
        // -1 and 101 would look like 0 and 1 if they were told as 100 times LEAVES and RETURNS.
        Checks.bytes(x, 2, -1, 101, 3);
        due("LEAVES below 0", x.people(2, 0, 1), 0);
        due("count(0)", x.count(0), 2);
        Checks.bytes(x, 3, 0, 1, 1, 0, 1, 1, 0, 1, 1, 0, 1, 1, 0, 1, 1, 0, 1, 1, 0, 1, 1, 0, 1, 1, 0, 1, 1, 0, 1, 1,
            0, 1, 1, 0, 1, 1);
        due("PEOPLE are FULL", x.people(3, 0, 12), 10);
        due("PEOPLE were FULL", x.people(3, 0, 12), 0);
    }

    private static void promise5Mend() {
        ThreeThrough x = Checks.withGates(3);
        x.person(520, 4);
        int[][] bad = {{1, 0, 5}, {-1, 0, 5}, {0, 0, 0}, {0, 0, 10}, {0, 1, 5}, {0, 1, 61}, {1, 1, 30}, {1, 2, 1},
            {-1, 2, 1}, {0, 2, 0}, {0, 2, 7}, {0, 3, 1}, {0, -1, 1}};
        for (int[] one : bad) {
            due("mend(" + one[0] + ", " + one[1] + ", " + one[2] + ")", x.mend(one[0], one[1], one[2]), BAD);
        }
        due("count(5)", x.count(5), 0);
        due("mend(0, 0, 9)", x.mend(0, 0, 9), 4);
        due("of(0, 2)", x.of(0, 2), 9);
        due("mend(0, 1, 6)", x.mend(0, 1, 6), 20);
        due("of(0, 1)", x.of(0, 1), 6);
        due("mend(0, 1, 60)", x.mend(0, 1, 60), 6);
        due("mend(0, 2, 6)", x.mend(0, 2, 6), 3);
        due("of(0, 10)", x.of(0, 10), 6);
        due("mend(0, 2, 6) to the same", x.mend(0, 2, 6), 6);
        due("count(5), without that to the same", x.count(5), 4);
    }

    private static void promise6Of() {
        ThreeThrough x = Checks.withGates(1, 5);
        x.person(203, 4);
        due("of(1, 0)", x.of(1, 0), BAD);
        due("of(-1, 3)", x.of(-1, 3), BAD);
        for (int what : new int[] {-1, 7, 8, 9, 11}) {
            due("of(0, " + what + ")", x.of(0, what), BAD);
        }
        due("of(2, 10)", x.of(2, 10), BAD);
        due("of(-1, 10)", x.of(-1, 10), BAD);
        due("of(1, 10)", x.of(1, 10), 5);
        due("of(0, 5) ahead of LEAVES", x.of(0, 5), 0);
        x.tick(2);
        due("of(0, 5) at LEAVES", x.of(0, 5), 1);
        x.pass(0, 1);
        due("of(0, 3) out", x.of(0, 3), 0);
        due("of(0, 4) out", x.of(0, 4), 1);
        due("of(0, 5) ahead of RETURNS", x.of(0, 5), 0);
        x.tick(1);
        due("of(0, 5) at RETURNS", x.of(0, 5), 1);
        due("of(0, 6)", x.of(0, 6), 0);
        x.tick(2);
        due("of(0, 6) behind two TIMES", x.of(0, 6), 8);
        x.pass(1, 1);
        due("of(0, 3) in again", x.of(0, 3), 1);
        due("of(0, 4) in again", x.of(0, 4), 1);
        due("of(0, 5) in again it stays", x.of(0, 5), 0);
        x.person(1, 1);
        x.tick(54);
        due("of(1, 5) at 59", x.of(1, 5), 1);
        x.tick(1);
        due("of(1, 5) at 60", x.of(1, 5), 0);
        due("of(1, 6) at 60", x.of(1, 6), 55);
    }

    private static void promise7Feed() {
        ThreeThrough x = new ThreeThrough();
        due("feed(-1)", x.feed(-1), BAD);
        due("feed(256)", x.feed(256), BAD);
        for (int i = 1; i <= 120; i++) {
            due("feed(" + (i % 256) + ")", x.feed(i == 1 ? 0 : i == 2 ? 255 : 't'), i);
        }
        due("feed, a 121st", x.feed('t'), FULL);
        due("feed(256), a 121st", x.feed(256), BAD);
        due("count(4)", x.count(4), 120);
    }

    private static void promise8Law() {
        ThreeThrough x = Checks.withGates(1);
        x.person(1, 1);
        Checks.feed(x, "0");
        due("law(2)", x.law(2), BAD);
        due("law(-1)", x.law(-1), BAD);
        due("THE TAPE stays", x.count(4), 1);
        due("law(0)", x.law(0), 1);
        due("THE TAPE is empty", x.count(4), 0);
        due("may by 0", x.may(0, 0, 0), 0);
        due("a FAULT", Checks.tell(x, 0, "1+"), -102);
        due("THE TAPE is empty behind a FAULT", x.count(4), 0);
        due("the law stays behind a FAULT", x.may(0, 0, 0), 0);
        due("law 1", Checks.tell(x, 1, "3"), 1);
        due("law 1 is not law 0", x.may(0, 0, 0), 0);
        due("comes by law 1", x.comes(0, 0), 3);
        due("law 0 anew", Checks.tell(x, 0, "p=0"), 1);
        due("may anew", x.may(0, 0, 0), 1);
        due("a longest text", Checks.tell(x, 0, "1+".repeat(59) + "10"), 1);
        // Each of its bytes is a step of its own, and the last ones count.
        due("a text of most steps", Checks.tell(x, 0, "-1" + "+1".repeat(59)), 1);
        due("it gives 58", x.may(0, 0, 0), 1);
        due("a text of most steps", Checks.tell(x, 0, "-1" + "+1".repeat(56) + "-55+0"), 1);
        due("it gives 0", x.may(0, 0, 0), 0);
        due("a text of most lines", Checks.tell(x, 0, "0?1;".repeat(29) + "0?0;"), -220);
        due("a text of most lines", Checks.tell(x, 0, "0?1;".repeat(29) + "9"), 1);
        due("its last line counts", x.may(0, 0, 0), 1);
        due("a longest text that ends too early", Checks.tell(x, 0, "1+".repeat(60)), -220);
    }

    private static void fault(String text, int place) {
        due("law of " + text, Checks.tell(new ThreeThrough(), 0, text), place < 0 ? 1 : -100 - place);
    }

    private static void promise8Faults() {
        fault("", 0);
        fault("1;", 2);
        fault(";1", 0);
        fault("1;;1", 2);
        fault("1234", -1);
        fault("12345", 4);
        fault("0000", -1);
        fault("1 +2", 1);
        fault("x", 0);
        fault("tg", 1);
        fault("1t", 1);
        fault("t1", 1);
        fault("1<2<3", 3);
        fault("1<2&3<4|5=6", -1);
        fault("(1<2)<3", -1);
        fault("1<2=3", 3);
        fault("1?2", -1);
        fault("1?2?3", 3);
        fault("1?2;3?4;5", -1);
        fault("1?", 2);
        fault("?1", 0);
        fault("(1?2)", 2);
        fault("(1;2)", 2);
        fault("(1", 2);
        fault("1)", 1);
        fault("()", 1);
        fault("((((((1))))))", -1);
        fault("(((((((1)))))))", 6);
        fault("!!!!!!1", -1);
        fault("!!!!!!!1", 6);
        fault("------1", -1);
        fault("-------1", 6);
        fault("1-------1", -1);
        fault("1--------1", 8);
        fault("!-(!-(1", 7);
        fault("!-(!-(1))", -1);
        fault("!-(!-((1)))", 6);
        fault("(!-!-!1)+(!-!-!1)", -1);
        fault("!!!!!!1+!!!!!!1", -1);
        fault("((((((1)))))", 12);
        fault("!(1)!", 4);
        fault("1*-2", -1);
        fault("1**2", 2);
        fault("1&&2", 2);
        fault("1!=2", 1);
        fault("1\u0000", 1);
        fault("t\u00ff", 1);
    }

    private static void promise8FaultsLikeModel() {
        Random random = new Random(8);
        for (int i = 0; i < 20000; i++) {
            String text = nearlyAText(random);
            fault(text, TextModel.fault(text));
        }
    }

    /** Mostly signs that can stand there, so that the scan gets far. */
    private static String nearlyAText(Random random) {
        StringBuilder text = new StringBuilder();
        int length = random.nextInt(14);
        boolean behindOperand = false;
        for (int i = 0; i < length; i++) {
            String signs = random.nextInt(9) == 0 ? "tp19|&<=>+-*/%!()?;x" : behindOperand ? "|&<=>+-*/%)))?;9" : "tp19!-((";
            char sign = signs.charAt(random.nextInt(signs.length()));
            behindOperand = "tp19)".indexOf(sign) >= 0;
            text.append(sign);
        }
        return text.toString();
    }

    /** What a text gives as COMES at TIME 7 at GATE 1, two being there. */
    private static void gives(String text, int want) {
        ThreeThrough x = Checks.withGates(1, 1);
        due("law of " + text, Checks.tell(x, 1, text), 1);
        due("value of " + text, x.comes(12, 7), want);
    }

    private static void textValues() {
        gives("t", 7);
        gives("g", 1);
        gives("n", 2);
        gives("1+p+c+s", 1);
        gives("8-2-3", 3);
        gives("2+3*2", 8);
        gives("(2+3)*2", 10);
        gives("9/2*2", 8);
        gives("0-7/2+8", 5);
        gives("-7/2+8", 5);
        gives("-7%4+8", 5);
        gives("7%-4+8", 11);
        gives("5/0+3", 3);
        gives("5%0+3", 3);
        gives("1<2", 1);
        gives("2<1", 0);
        gives("1<1", 0);
        gives("2>1", 1);
        gives("1>1", 0);
        gives("5=5", 1);
        gives("5=4", 0);
        gives("5|0", 1);
        gives("0|0", 0);
        gives("5&3", 1);
        gives("5&0", 0);
        gives("1|0&0", 1);
        gives("(1|0)&0", 0);
        gives("0=0&1", 1);
        gives("1+1=2", 1);
        gives("!5", 0);
        gives("!0", 1);
        gives("!5+1", 1);
        gives("!!5", 1);
        gives("--5", 5);
        gives("-5+9", 4);
        gives("2--3", 5);
        gives("0?1;0?2", 0);
        gives("0?1;3?2;9", 2);
        gives("0-1?4;9", 4);
        gives("0;9", 0);
        gives("0?4;0;9", 0);
        gives("9999*9999*9999*0+5", 5);
        // By longs: what an int keeps of it.
        gives("9999*9999*9999*9999/9999/9999", clamped((int) 9996000599960001L / 9999 / 9999));
        gives("9999*9999*22<0", (int) (9999L * 9999L * 22L) < 0 ? 1 : 0);
        gives("9999*9999*9999<0", (int) (9999L * 9999L * 9999L) < 0 ? 1 : 0);
        // 2^31 wraps to the least int; by -1 it stays so.
        gives("(2048*1024*1024)/-1<0", 1);
        gives("(2048*1024*1024)%-1", 0);
        gives("-(2048*1024*1024)<0", 1);
    }

    private static int clamped(int v) {
        return Math.max(0, Math.min(12, v));
    }

    private static void promise9May() {
        ThreeThrough x = Checks.withGates(2, 3);
        x.person(1, 5);
        x.person(1, 7);
        int[][] bad = {{2, 0, 0}, {-1, 0, 0}, {0, 2, 0}, {0, 9, 0}, {0, 20, 0}, {0, -1, 0}, {0, 0, -1}, {0, 0, 60},
            {0, -10, 0}};
        for (int[] one : bad) {
            due("may(" + one[0] + ", " + one[1] + ", " + one[2] + ")", x.may(one[0], one[1], one[2]), BAD);
        }
        due("without a text", x.may(1, 11, 59), 1);
        Checks.tell(x, 0, "t=4&g=1&p=1&c=7&s=1&n=0");
        due("may(1, 11, 4)", x.may(1, 11, 4), 1);
        due("may(1, 11, 5)", x.may(1, 11, 5), 0);
        due("may(1, 10, 4)", x.may(1, 10, 4), 0);
        due("may(1, 1, 4)", x.may(1, 1, 4), 0);
        due("may(0, 11, 4)", x.may(0, 11, 4), 0);
        x.mend(1, 0, 6);
        due("may(1, 11, 4), its COST mended", x.may(1, 11, 4), 0);
        Checks.tell(x, 0, "0-5");
        due("not 0", x.may(0, 0, 0), 1);
        x.gate(1);
        Checks.tell(x, 0, "g=2&s=0");
        due("may(0, 20, 0)", x.may(0, 20, 0), 1);
        due("may(0, 21, 0)", x.may(0, 21, 0), 0);
        due("may(0, 10, 0)", x.may(0, 10, 0), 0);
    }

    private static void promise10Comes() {
        ThreeThrough x = Checks.withGates(2, 3);
        int[][] bad = {{20, 0}, {-1, 0}, {0, -1}, {0, 60}, {-10, 5}};
        for (int[] one : bad) {
            due("comes(" + one[0] + ", " + one[1] + ")", x.comes(one[0], one[1]), BAD);
        }
        due("without a text", x.comes(19, 59), 6);
        Checks.tell(x, 1, "t*100+g*10+n-500");
        due("held at 0", x.comes(0, 0), 0);
        due("held at 12", x.comes(0, 59), 12);
        due("comes(11, 5)", x.comes(11, 5), 11);
        due("comes(9, 5)", x.comes(9, 5), 9);
        Checks.tell(x, 1, "p|c|s");
        due("p, c, s are 0", x.comes(11, 5), 0);
        x.gate(1);
        Checks.tell(x, 1, "g*4+n");
        due("comes(20, 5)", x.comes(20, 5), 8);
        due("comes(10, 5)", x.comes(10, 5), 4);
        due("comes(19, 5)", x.comes(19, 5), 12);
    }

    private static void promises28And29UndoRedo() {
        ThreeThrough x = Checks.withGates(3);
        x.person(520, 4);
        x.mend(0, 0, 5);
        x.mend(0, 1, 30);
        x.mend(0, 2, 1);
        due("undo()", x.undo(), 2);
        due("NUMBER is undone", x.of(0, 10), 3);
        due("undo()", x.undo(), 1);
        due("RETURNS is undone", x.of(0, 1), 20);
        due("redo()", x.redo(), 1);
        due("RETURNS is done again", x.of(0, 1), 30);
        due("count(5)", x.count(5), 2);
        due("a change that is BAD", x.mend(0, 2, 7), BAD);
        due("redo() still", x.redo(), 0);
        due("NUMBER is done again", x.of(0, 10), 1);
        due("redo()", x.redo(), STATE);
        due("undo()", x.undo(), 2);
        x.person(1, 1);
        due("another PERSON is no change", x.redo(), 0);
        due("undo()", x.undo(), 2);
        due("mend(0, 0, 6)", x.mend(0, 0, 6), 5);
        due("redo() behind another change", x.redo(), STATE);
        due("undo()", x.undo(), 2);
        due("undo()", x.undo(), 1);
        due("undo()", x.undo(), 0);
        due("undo()", x.undo(), STATE);
        due("COST at first", x.of(0, 2), 4);
    }

    private static void promises28And29TheSameIsNoChange() {
        ThreeThrough x = Checks.withGates(1, 3);
        x.person(520, 4);
        due("mend(1, 2, 3) to the same", x.mend(1, 2, 3), 3);
        due("mend(0, 0, 4) to the same", x.mend(0, 0, 4), 4);
        due("mend(0, 1, 20) to the same", x.mend(0, 1, 20), 20);
        due("count(5)", x.count(5), 0);
        due("undo()", x.undo(), STATE);
        x.mend(1, 2, 5);
        x.mend(0, 0, 6);
        x.mend(0, 1, 30);
        due("NUMBER to the same", x.mend(1, 2, 5), 5);
        due("COST to the same", x.mend(0, 0, 6), 6);
        due("RETURNS to the same", x.mend(0, 1, 30), 30);
        due("count(5)", x.count(5), 3);
        due("undo()", x.undo(), 2);
        due("RETURNS is undone", x.of(0, 1), 20);
        due("undo()", x.undo(), 1);
        due("COST is undone", x.of(0, 2), 4);
        due("RETURNS to the same, behind undo()", x.mend(0, 1, 20), 20);
        due("no other came behind: redo()", x.redo(), 1);
        due("COST is done again", x.of(0, 2), 6);
        due("COST to the same, behind redo()", x.mend(0, 0, 6), 6);
        due("redo()", x.redo(), 0);
        due("RETURNS is done again", x.of(0, 1), 30);
        due("to what it was at first is a change", x.mend(0, 1, 20), 30);
        due("count(5)", x.count(5), 4);
    }

    private static void promises28And29TheSameForgetsNone() {
        ThreeThrough x = new ThreeThrough();
        x.person(1, 1);
        for (int k = 0; k < 40; k++) {
            x.mend(0, 1, 10 + k);
        }
        due("RETURNS to the same", x.mend(0, 1, 49), 49);
        due("count(5)", x.count(5), 40);
        for (int left = 39; left >= 0; left--) {
            due("undo()", x.undo(), left);
        }
        due("RETURNS at first", x.of(0, 1), 1);
    }

    private static void promises28And29FortyAreKept() {
        ThreeThrough x = new ThreeThrough();
        x.person(1, 1);
        x.person(1, 1);
        for (int k = 0; k < 45; k++) {
            x.mend(k % 2, 1, 10 + k);
        }
        due("count(5)", x.count(5), 40);
        for (int left = 39; left >= 0; left--) {
            due("undo()", x.undo(), left);
            int k = left + 5;
            due("RETURNS ahead of change " + k, x.of(k % 2, 1), 8 + k);
        }
        due("undo(), a 41st", x.undo(), STATE);
        for (int left = 39; left >= 0; left--) {
            due("redo()", x.redo(), left);
            int k = 44 - left;
            due("RETURNS behind change " + k, x.of(k % 2, 1), 10 + k);
        }
        due("redo(), a 41st", x.redo(), STATE);
        due("RETURNS of the other", x.of(1, 1), 53);
    }

    /** What change k mends by turns (COST, RETURNS, NUMBER) becomes: never what it was. */
    private static int turnsTo(int k) {
        return k % 3 == 0 ? 1 + k / 3 % 9 : k % 3 == 1 ? 10 + k : 1 + k / 3 % 6;
    }

    private static int nowAt(ThreeThrough x, int k) {
        return x.of(0, k % 3 == 0 ? 2 : k % 3 == 1 ? 1 : 10);
    }

    private static void promises28And29FortyOfAllSortsAreKept() {
        ThreeThrough x = Checks.withGates(6);
        x.person(1, 9);
        for (int k = 0; k < 50; k++) {
            x.mend(0, k % 3, turnsTo(k));
        }
        due("count(5)", x.count(5), 40);
        for (int left = 39; left >= 0; left--) {
            int k = left + 10;
            due("undo()", x.undo(), left);
            due("ahead of change " + k, nowAt(x, k), turnsTo(k - 3));
            due("what change " + (k - 1) + " made stays", nowAt(x, k - 1), turnsTo(k - 1));
            due("what change " + (k - 2) + " made stays", nowAt(x, k - 2), turnsTo(k - 2));
        }
        due("undo(), a 41st", x.undo(), STATE);
        for (int left = 39; left >= 0; left--) {
            int k = 49 - left;
            due("redo()", x.redo(), left);
            due("behind change " + k, nowAt(x, k), turnsTo(k));
        }
        due("redo(), a 41st", x.redo(), STATE);
    }
}
