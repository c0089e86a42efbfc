/** The edges of TEXTS and of promises 7 to 10 (feed, law, may, comes), sentence by sentence. */
public final class EdgesTextsTest {
    private static final Edges EDGES = new Edges("EdgesTextsTest");
    private static final int BAD = ThreeThrough.BAD, FULL = ThreeThrough.FULL;
    private static final int MIN = Integer.MIN_VALUE, MAX = Integer.MAX_VALUE;
    private static final int FINE = -1;
    private static final String NAMES = "tgpcsn", DIGITS = "0123456789", OPENING = "(!-", JOINING = "|&<=>+-*/%";
    /** 2 to the 31st: the least int. */
    private static final String LEAST = "256*256*256*128";

    private EdgesTextsTest() {
    }

    public static void main(String[] args) {
        feedBytes();
        tapeIsFull();
        tapeOfMostBytes();
        linesOneOrMore();
        lineWithAQuestion();
        chains();
        oneComparison();
        numbersOfDigits();
        noBlanks();
        whatMayComeFirst();
        whatMayComeBehindAnOperand();
        whatMayComeBehindASign();
        sixAreOpen();
        sixAreOpenOfAllSorts();
        closedOnesAreNotOpen();
        brackets();
        intsThatWrap();
        towardZero();
        byZero();
        oneAndZero();
        allIsWorkedOut();
        firstLineThatCounts();
        faultEndsTooEarly();
        lawWhich();
        lawTapeIsEmptyThen();
        lawWithAFaultChangesNoLaw();
        mayIsNotZero();
        mayWithoutAText();
        mayWhoGateWay();
        comesIsHeld();
        comesWithoutAText();
        comesNamesAreZero();
        comesGateAndHowMany();
        EDGES.end();
    }

    /** A text has its FAULT at a place (FINE: it has none), and then it is no law. */
    private static void fault(String text, int place) {
        EDGES.inside("law(0) of " + text, x -> Checks.tell(x, 0, text), place == FINE ? 1 : -100 - place);
        EDGES.inside("law(1) of " + text, x -> Checks.tell(x, 1, text), place == FINE ? 1 : -100 - place);
    }

    private static void holds(String text) {
        EDGES.inside("MAY by " + text, x -> {
            x.gate(1);
            x.person(1, 1);
            return Checks.tell(x, 0, text) == 1 ? x.may(0, 0, 0) : BAD;
        }, 1);
    }

    /** What a text gives as COMES at TIME 7 at GATE 1, two being there. */
    private static void gives(String text, int want) {
        EDGES.inside("COMES by " + text, x -> {
            x.gate(1);
            x.gate(1);
            return Checks.tell(x, 1, text) == 1 ? x.comes(12, 7) : BAD;
        }, want);
    }

    private static void feedBytes() {
        EDGES.sentence("A byte (0 .. 255) comes to THE TAPE: how many it has.");
        EDGES.of(Edges::rich);
        EDGES.insideFor("feed", (x, letter) -> x.feed(letter), 4, 0, 1, 254, 255);
        EDGES.insideFor("feed, count(4)", (x, letter) -> x.feed(letter) - x.count(4), 0, 0, 255);
        EDGES.refusedFor("feed", (x, letter) -> x.feed(letter), BAD, -1, 256, 257, MIN, MAX);
        EDGES.of(x -> { });
        EDGES.inside("the first byte", x -> x.feed('1'), 1);
    }

    private static void tapeIsFull() {
        EDGES.sentence("BAD, FULL (120).");
        EDGES.of(x -> Checks.feed(x, "1+".repeat(59) + "1"));
        EDGES.inside("a 120th", x -> x.feed('0'), 120);
        EDGES.of(x -> {
            Edges.rich(x);
            Checks.feed(x, "&1" + "+1".repeat(57) + "0");
        });
        EDGES.inside("count(4)", x -> x.count(4), 120);
        EDGES.refusedFor("a 121st", (x, letter) -> x.feed(letter), FULL, 0, '1', 255);
        EDGES.refusedFor("a 121st, BAD ahead of FULL", (x, letter) -> x.feed(letter), BAD, -1, 256);
        EDGES.inside("the text without the 121st", x -> x.feed('x') + x.law(0), FULL + 1);
        EDGES.inside("behind law() it has room again", x -> x.law(0) + x.feed('1'), 1 + 1);
    }

    private static void tapeOfMostBytes() {
        EDGES.sentence("TEXTS by THE TAPE (at most 120 bytes)");
        fault("1+".repeat(59) + "10", FINE);
        fault("-1" + "+1".repeat(59), FINE);
        fault("1;".repeat(59) + "10", FINE);
        fault("1;".repeat(58) + "0?10", FINE);
        fault("(1)+".repeat(29) + "(10)", FINE);
        fault("!".repeat(6) + "1234" + "|!!!!!!123".repeat(11), FINE);
        fault("1+".repeat(60), 120);
        fault("1;".repeat(60), 120);
        fault("1+".repeat(59) + "1x", 119);
        fault("1+".repeat(59) + "xx", 118);
        gives("0+".repeat(59) + "11", 11);
        gives("-1" + "+1".repeat(9) + "+0".repeat(50), 8);
        gives("-1" + "+0".repeat(50) + "+1".repeat(9), 8);
        gives("0?1;".repeat(29) + "9", 9);
        gives("0?1;".repeat(29) + "0?9", 0);
    }

    private static void linesOneOrMore() {
        EDGES.sentence("LINES, one or more, parted by ;");
        fault("", 0);
        fault("1", FINE);
        fault("1;1", FINE);
        fault("1;1;1", FINE);
        fault(";", 0);
        fault(";1", 0);
        fault("1;", 2);
        fault("1;;1", 2);
        fault("1;1;", 4);
        fault("1,1", 1);
        fault("1:1", 1);
        fault("(1;1)", 2);
    }

    private static void lineWithAQuestion() {
        EDGES.sentence("LINE: E, or E ? E (what counts if the first is not 0).");
        fault("1?1", FINE);
        fault("1?1;1?1;1", FINE);
        fault("?", 0);
        fault("?1", 0);
        fault("1?", 2);
        fault("1??1", 2);
        fault("1?1?1", 3);
        fault("1?;1", 2);
        fault("(1?1)", 2);
        fault("1?(1?1)", 4);
        fault("1?1<2?3", 5);
        fault("1<2?3<4", FINE);
        gives("0?5;7", 7);
        gives("1?5;7", 5);
        gives("-1?5;7", 5);
        gives(LEAST + "?5;7", 5);
        gives("1-1?5;7", 7);
    }

    private static void chains() {
        EDGES.sentence("E = A { | A }. A = B { & B }. B = S, or S < S, S = S, S > S. S = P { + P, - P }. P = O { * O, / O, % O }.");
        for (char sign : "|&+-*/%".toCharArray()) {
            fault("1" + sign, 2);
            fault("1" + sign + "2", FINE);
            fault("1" + sign + "2" + sign + "3", FINE);
            fault("1" + sign + "2" + sign, 4);
            fault("(1" + sign + ")", 3);
        }
        fault("1||2", 2);
        fault("1&&2", 2);
        fault("1**2", 2);
        fault("1*/2", 2);
        fault("1++2", 2);
        fault("1+-2", FINE);
        fault("1--2", FINE);
        fault("1*-2", FINE);
        gives("9-3-2", 4);
        gives("8/4/2", 1);
        gives("9%5%3", 1);
        gives("9-3+2", 8);
        gives("2*3%4", 2);
        gives("7%4*2", 6);
        gives("1+2*3", 7);
        gives("2+1<3+1", 1);
        gives("1|1&0", 1);
        gives("0&1|1", 1);
        gives("0&0=0", 0);
        gives("1|0=2", 1);
        gives("-2+5", 3);
        gives("!0+5", 6);
        gives("!0*5", 5);
        gives("-2*-3", 6);
    }

    private static void oneComparison() {
        EDGES.sentence("B = S, or S < S, S = S, S > S.");
        for (char first : "<=>".toCharArray()) {
            fault("1" + first, 2);
            fault("1" + first + "2", FINE);
            for (char second : "<=>".toCharArray()) {
                fault("1" + first + second + "2", 2);
                fault("1" + first + "2" + second + "3", 3);
                fault("1" + first + "2+1" + second + "3", 5);
                fault("(1" + first + "2)" + second + "3", FINE);
                fault("1" + first + "(2" + second + "3)", FINE);
                fault("1" + first + "2&1" + second + "3", FINE);
                fault("1" + first + "2|1" + second + "3", FINE);
                fault("1" + first + "2?1" + second + "3", FINE);
                fault("1" + first + "2;1" + second + "3", FINE);
            }
        }
    }

    private static void numbersOfDigits() {
        EDGES.sentence("O = a number (1 to 4 digits)");
        fault("1", FINE);
        fault("9999", FINE);
        fault("0000", FINE);
        fault("0001", FINE);
        fault("99999", 4);
        fault("00000", 4);
        fault("12345+1", 4);
        fault("1+12345", 6);
        fault("(12345)", 5);
        fault("1+", 2);
        gives("0", 0);
        gives("0012", 12);
        gives("9999-9990", 9);
        gives("9999=9999", 1);
        gives("1000-999", 1);
    }

    private static void noBlanks() {
        EDGES.sentence("No blanks.");
        fault(" ", 0);
        fault(" 1", 0);
        fault("1 ", 1);
        fault("1 +1", 1);
        fault("1+ 1", 2);
        fault("1; 1", 2);
        fault("! 1", 1);
        fault("( 1)", 1);
        fault("1 2", 1);
        fault("1\t", 1);
        fault("1\n", 1);
    }

    private static void whatMayComeFirst() {
        EDGES.sentence("NAMES: t the TIME, g the GATE, p the PERSON, c its COST, s 0 out, 1 in (the way), n how many are there.");
        for (int b = 0; b <= 255; b++) {
            String sign = String.valueOf((char) b);
            boolean operand = (NAMES + DIGITS).contains(sign);
            fault(sign, operand ? FINE : OPENING.contains(sign) ? 1 : 0);
        }
        for (char name : NAMES.toCharArray()) {
            fault("" + name + name, 1);
            fault("1" + name, 1);
            fault(name + "1", 1);
            fault("" + Character.toUpperCase(name), 0);
        }
    }

    private static void whatMayComeBehindAnOperand() {
        EDGES.sentence("FAULT: the place (from 0) of the first byte with which no TEXT goes on;");
        for (String operand : new String[] {"1", "t", "(1)", "!1", "-t"}) {
            for (int b = 0; b <= 255; b++) {
                String sign = String.valueOf((char) b);
                int at = operand.length();
                boolean digit = DIGITS.contains(sign) && operand.endsWith("1");
                boolean goesOn = (JOINING + "?;").contains(sign);
                fault(operand + sign, digit ? FINE : goesOn ? at + 1 : at);
            }
        }
    }

    private static void whatMayComeBehindASign() {
        EDGES.sentence("the place (from 0) of the first byte with which no TEXT goes on; the length, if it ends too early.");
        for (char join : (JOINING + "?;").toCharArray()) {
            for (int b = 0; b <= 255; b++) {
                String sign = String.valueOf((char) b);
                boolean operand = (NAMES + DIGITS).contains(sign);
                fault("1" + join + sign, operand ? FINE : OPENING.contains(sign) ? 3 : 2);
            }
        }
    }

    private static void sixAreOpen() {
        EDGES.sentence("At most 6 of ( ! - ahead of an O are open at once.");
        for (int open = 0; open <= 6; open++) {
            fault("(".repeat(open) + "1" + ")".repeat(open), FINE);
            fault("!".repeat(open) + "1", FINE);
            fault("-".repeat(open) + "1", FINE);
        }
        fault("(((((((1)))))))", 6);
        fault("!!!!!!!1", 6);
        fault("-------1", 6);
        fault("((((((((1))))))))", 6);
        fault("((((((", 6);
        fault("((((((x", 6);
        fault("(((((((", 6);
        fault("1-------1", FINE);
        fault("1--------1", 8);
        fault("1;------1", FINE);
        fault("1;-------1", 8);
        fault("1?!!!!!!1", FINE);
        fault("1?!!!!!!!1", 8);
    }

    private static void sixAreOpenOfAllSorts() {
        EDGES.sentence("At most 6 of ( ! - ahead of an O are open at once.");
        String[] six = {"(!-(!-", "!(!(!(", "-!-!-!", "((((((", "---(((", "(((!!!"};
        for (String opening : six) {
            String closing = ")".repeat(opening.length() - opening.replace("(", "").length());
            fault(opening + "1" + closing, FINE);
            for (char seventh : OPENING.toCharArray()) {
                fault(opening + seventh + "1" + closing + (seventh == '(' ? ")" : ""), 6);
            }
        }
    }

    private static void closedOnesAreNotOpen() {
        EDGES.sentence("are open at once.");
        fault("((((((1))))))+((((((1))))))", FINE);
        fault("!!!!!!1+!!!!!!1", FINE);
        fault("!!!!!!1*------1", FINE);
        fault("(((((!1+!1)))))", FINE);
        fault("(((((!1+!!1)))))", 9);
        fault("(((((1)+(1)))))", FINE);
        fault("(((((1)+((1))))))", FINE);
        fault("(((((1)+(((1)))))))", 10);
        fault("!!!!!(1)+(((((1)))))", FINE);
        fault("!(1)+!!!!!!1", FINE);
        fault("-(-(-(1)))-------1", FINE);
        fault("((((((1)))))&(1))", FINE);
        fault("((((((1))))))&((((((1))))))|(((((((1)))))))", 34);
    }

    private static void brackets() {
        EDGES.sentence("( E ).");
        fault("(1)", FINE);
        fault("(1|2&3<4)", FINE);
        fault("()", 1);
        fault("(", 1);
        fault("(1", 2);
        fault("(1)(", 3);
        fault("(1)1", 3);
        fault("1(1)", 1);
        fault(")", 0);
        fault("1)", 1);
        fault("(1))", 3);
        fault("((1)", 4);
        fault("[1]", 0);
        fault("!", 1);
        fault("-", 1);
        fault("1!", 1);
        fault("(1)!", 3);
    }

    private static void intsThatWrap() {
        EDGES.sentence("Ints that wrap;");
        holds("256*256*256*127>0");
        holds("256*256*256*127+256*256*255+256*255+255>0");
        holds("256*256*256*127+256*256*255+256*255+256<0");
        holds("256*256*256*127+256*256*255+256*255+256=" + LEAST);
        holds(LEAST + "<0");
        holds(LEAST + "-1>0");
        holds(LEAST + "+" + LEAST + "=0");
        holds("256*256*256*256=0");
        holds("256*256*256*256+1=1");
        holds("-(" + LEAST + ")=" + LEAST);
        holds(LEAST + "/-1=" + LEAST);
        holds(LEAST + "%-1=0");
        holds("!(" + LEAST + ")=0");
    }

    private static void towardZero() {
        EDGES.sentence("/ and % toward 0");
        holds("7/2=3");
        holds("-7/2=-3");
        holds("7/-2=-3");
        holds("-7/-2=3");
        holds("1/2=0");
        holds("-1/2=0");
        holds("7%2=1");
        holds("-7%2=-1");
        holds("7%-2=1");
        holds("-7%-2=-1");
        holds("-8%2=0");
        holds("-8/2=-4");
        holds("(0-7)/2=0-3");
    }

    private static void byZero() {
        EDGES.sentence("by 0 they give 0;");
        holds("7/0=0");
        holds("-7/0=0");
        holds("0/0=0");
        holds("7%0=0");
        holds("-7%0=0");
        holds("0%0=0");
        holds(LEAST + "/0=0");
        holds("7/0+1=1");
        holds("7/(1-1)=0");
        holds("7%(t-t)=0");
        holds("7/1=7");
        holds("7/-1=-7");
    }

    private static void oneAndZero() {
        EDGES.sentence("| & < = > ! give 1, 0;");
        holds("(5|7)=1");
        holds("(5|0)=1");
        holds("(0|-1)=1");
        holds("(0|0)=0");
        holds("(5&7)=1");
        holds("(5&-1)=1");
        holds("(4&2)=1");
        holds("(5&0)=0");
        holds("(0&5)=0");
        holds("(3<4)=1");
        holds("(4<4)=0");
        holds("(5<4)=0");
        holds("(4=4)=1");
        holds("(3=4)=0");
        holds("(4>3)=1");
        holds("(4>4)=0");
        holds("(3>4)=0");
        holds("(-1<0)=1");
        holds("(" + LEAST + "<" + LEAST + "-1)=1");
        holds("!0=1");
        holds("!1=0");
        holds("!5=0");
        holds("!-1=0");
        holds("!!5=1");
    }

    private static void allIsWorkedOut() {
        EDGES.sentence("all is worked out.");
        holds("1|1/0");
        holds("1/0|1");
        holds("!(0&1/0)");
        holds("0?1/0;1");
        holds("1?1;1/0");
    }

    private static void firstLineThatCounts() {
        EDGES.sentence("The first LINE without a first E, or whose first E is not 0, counts; none: 0.");
        gives("5", 5);
        gives("5;7", 5);
        gives("0;7", 0);
        gives("0?5;7;9", 7);
        gives("0?5;1?7;9", 7);
        gives("1?0;7", 0);
        gives("0?5", 0);
        gives("0?5;0?7", 0);
        gives("0?5;0?7;0?9", 0);
        gives("0?5;-1?7", 7);
        gives("0?5;0;9", 0);
        gives("t=7?5;9", 5);
        gives("t=8?5;9", 9);
    }

    private static void faultEndsTooEarly() {
        EDGES.sentence("the length, if it ends too early.");
        String whole = "!(-t+2*3<c&1|0)?n%2;9";
        fault(whole, FINE);
        for (int length = 0; length < whole.length(); length++) {
            String begun = whole.substring(0, length);
            boolean fine = length == 17 || length == 19;
            fault(begun, fine || length == 15 ? FINE : length);
        }
    }

    private static void lawWhich() {
        EDGES.sentence("THE TAPE becomes LAW which (0, 1): 1;");
        EDGES.of(Edges::rich);
        EDGES.insideFor("law", (x, which) -> x.law(which), 1, 0, 1);
        EDGES.inside("law(0) is MAY's", x -> x.law(0) + x.may(0, 0, 7), 1);
        EDGES.inside("law(0) is not COMES'", x -> x.law(0) + x.comes(0, 6), 1 + 1);
        EDGES.inside("law(1) is COMES'", x -> x.law(1) + x.comes(3, 6), 1 + 1);
        EDGES.inside("law(1) is not MAY's", x -> x.law(1) + x.may(0, 0, 7), 1 + 1);
        EDGES.sentence("BAD (THE TAPE stays).");
        EDGES.of(Edges::rich);
        EDGES.refusedFor("law", (x, which) -> x.law(which), BAD, -1, 2, MIN, MAX);
        EDGES.inside("BAD: count(4)", x -> x.law(2) + x.count(4), BAD + 3);
        EDGES.of(x -> Checks.feed(x, "1+"));
        EDGES.refusedFor("law of a text with a FAULT", (x, which) -> x.law(which), BAD, -1, 2);
    }

    private static void lawTapeIsEmptyThen() {
        EDGES.sentence("-100 less its FAULT; THE TAPE is empty then.");
        EDGES.of(Edges::rich);
        EDGES.inside("a law: count(4)", x -> x.law(0) + x.count(4), 1);
        EDGES.inside("the next byte is the first", x -> x.law(0) + x.feed('1'), 1 + 1);
        EDGES.inside("a law again, of nothing", x -> x.law(0) + x.law(0), 1 - 100);
        EDGES.of(x -> {
            Edges.rich(x);
            x.feed('x');
        });
        EDGES.inside("a FAULT", x -> x.law(0), -103);
        EDGES.inside("a FAULT: count(4)", x -> x.law(0) + x.count(4), -103);
        EDGES.inside("behind a FAULT the next byte is the first", x -> x.law(0) + x.feed('1') + x.law(0), -103 + 1 + 1);
        EDGES.of(x -> { });
        EDGES.refused("nothing on THE TAPE", x -> x.law(0), -100);
        EDGES.refused("nothing on THE TAPE", x -> x.law(1), -100);
    }

    private static void lawWithAFaultChangesNoLaw() {
        EDGES.sentence("What is answered so changes nothing.");
        EDGES.of(x -> {
            x.gate(1);
            x.person(1, 1);
            Checks.tell(x, 0, "t=3");
            Checks.tell(x, 1, "t");
        });
        EDGES.refused("a FAULT of LAW 0", x -> Checks.tell(x, 0, "1;"), -102);
        EDGES.refused("a FAULT of LAW 1", x -> Checks.tell(x, 1, "1;x"), -102);
        EDGES.refused("no bytes for LAW 0", x -> x.law(0), -100);
        EDGES.of(x -> {
            x.gate(1);
            x.person(1, 1);
        });
        EDGES.refused("a FAULT, no LAW 0 told", x -> Checks.tell(x, 0, "0;"), -102);
        EDGES.refused("a FAULT, no LAW 1 told", x -> Checks.tell(x, 1, "0;"), -102);
    }

    private static void mayByValue(String text, int want) {
        EDGES.of(x -> {
            Edges.rich(x);
            x.law(0);
            Checks.tell(x, 0, text);
        });
        EDGES.inside("by " + text, x -> x.may(0, 0, 0), want);
    }

    private static void mayIsNotZero() {
        EDGES.sentence("LAW 0 MAY (n 0): not 0: that PERSON may go that way by that GATE at that TIME;");
        mayByValue("0", 0);
        mayByValue("1", 1);
        mayByValue("-1", 1);
        mayByValue("2", 1);
        mayByValue(LEAST, 1);
        mayByValue("256*256*256*256", 0);
        mayByValue("0?1", 0);
        mayByValue("n", 0);
        mayByValue("n=0", 1);
        EDGES.of(x -> {
            Edges.rich(x);
            x.law(0);
            Checks.tell(x, 0, "t=59&g=1&p=2&c=9&s=1");
        });
        EDGES.inside("all as told", x -> x.may(2, 11, 59), 1);
        EDGES.inside("another TIME", x -> x.may(2, 11, 58), 0);
        EDGES.inside("another GATE", x -> x.may(2, 1, 59), 0);
        EDGES.inside("another PERSON", x -> x.may(1, 11, 59), 0);
        EDGES.inside("another way", x -> x.may(2, 10, 59), 0);
        EDGES.inside("another COST", x -> x.mend(2, 0, 8) + x.may(2, 11, 59), 9);
    }

    private static void mayWithoutAText() {
        EDGES.sentence("without a text: it may.");
        EDGES.of(x -> {
            x.gate(1);
            x.gate(1);
            x.person(5960, 1);
        });
        for (int time : new int[] {0, 59}) {
            EDGES.insideFor("may(0, gs, " + time + ")", (x, gs) -> x.may(0, gs, time), 1, 0, 1, 10, 11);
        }
        EDGES.inside("with LAW 1 alone", x -> Checks.tell(x, 1, "0") + x.may(0, 0, 0), 1 + 1);
    }

    /** A text for MAY, whatever there is on THE TAPE. */
    private static int tellAnew(ThreeThrough x, String text) {
        x.law(0);
        return Checks.tell(x, 0, text);
    }

    private static void mayWhoGateWay() {
        EDGES.sentence("MAY (gs: 10 times the GATE and the way 0, 1): 1, 0. BAD.");
        EDGES.of(Edges::rich);
        EDGES.inside("the last PERSON, GATE and way", x -> x.may(2, 11, 0), 1);
        EDGES.inside("the last PERSON, GATE and the first way", x -> x.may(2, 10, 0), 0);
        for (int g = 0; g < 2; g++) {
            int gate = g;
            EDGES.inside("out by GATE " + g, x -> tellAnew(x, "g=" + gate + "&s=0") * x.may(0, 10 * gate, 0), 1);
            EDGES.inside("in by GATE " + g, x -> tellAnew(x, "g=" + gate + "&s=0") * x.may(0, 10 * gate + 1, 0), 0);
            EDGES.inside("in by GATE " + g, x -> tellAnew(x, "g=" + gate + "&s=1") * x.may(0, 10 * gate + 1, 0), 1);
            EDGES.inside("out by GATE " + g, x -> tellAnew(x, "g=" + gate + "&s=1") * x.may(0, 10 * gate, 0), 0);
        }
        EDGES.refusedFor("nobody", (x, p) -> x.may(p, 0, 0), BAD, -1, 3, 11, 12, MIN, MAX);
        EDGES.refusedFor("no such way", (x, gs) -> x.may(0, gs, 0), BAD, 2, 3, 9, 12, 19);
        EDGES.refusedFor("no such GATE", (x, gs) -> x.may(0, gs, 0), BAD, 20, 21, 30, -1, -9, -10, -11, MIN, MAX);
        EDGES.refusedFor("no such TIME", (x, t) -> x.may(0, 0, t), BAD, -1, 60, MIN, MAX);
    }

    private static void comesIsHeld() {
        EDGES.sentence("in how many of twelve one more comes to a GATE at a TIME (held within 0 .. 12);");
        gives("0", 0);
        gives("1", 1);
        gives("11", 11);
        gives("12", 12);
        gives("13", 12);
        gives("9999", 12);
        gives(LEAST + "-1", 12);
        gives("-1", 0);
        gives("-9999", 0);
        gives(LEAST, 0);
    }

    private static void comesWithoutAText() {
        EDGES.sentence("without: 6.");
        EDGES.of(x -> {
            x.gate(1);
            x.gate(1);
        });
        for (int time : new int[] {0, 59}) {
            EDGES.insideFor("comes(gn, " + time + ")", (x, gn) -> x.comes(gn, time), 6, 0, 9, 10, 19);
        }
        EDGES.inside("with LAW 0 alone", x -> Checks.tell(x, 0, "0") + x.comes(0, 0), 1 + 6);
    }

    private static void comesNamesAreZero() {
        EDGES.sentence("LAW 1 COMES (p, c, s 0)");
        EDGES.of(x -> {
            Edges.rich(x);
            x.law(0);
        });
        for (String name : new String[] {"p", "c", "s"}) {
            EDGES.inside("by " + name, x -> Checks.tell(x, 1, name) + x.comes(12, 7), 1);
            EDGES.inside("by !" + name, x -> Checks.tell(x, 1, "!" + name) + x.comes(12, 7), 1 + 1);
            EDGES.inside("by " + name + ", behind may()", x -> {
                Checks.tell(x, 0, "p+c+s");
                Checks.tell(x, 1, name);
                x.may(2, 11, 7);
                return x.comes(12, 7);
            }, 0);
        }
    }

    private static void comesGateAndHowMany() {
        EDGES.sentence("COMES (gn: 10 times the GATE, and how many are there, 0 .. 9) at a TIME. BAD.");
        EDGES.of(x -> {
            Edges.rich(x);
            x.law(0);
            Checks.tell(x, 1, "n+g+t");
        });
        EDGES.inside("nobody there", x -> x.comes(0, 0), 0);
        EDGES.inside("nine there", x -> x.comes(9, 0), 9);
        EDGES.inside("nobody there, the last GATE", x -> x.comes(10, 0), 1);
        EDGES.inside("nine there, the last GATE", x -> x.comes(19, 0), 10);
        EDGES.inside("a later TIME", x -> x.comes(1, 10), 11);
        EDGES.refusedFor("no such GATE", (x, gn) -> x.comes(gn, 0), BAD, 20, 29, 30, -1, -9, -10, MIN, MAX);
        EDGES.refusedFor("no such TIME", (x, t) -> x.comes(0, t), BAD, -1, 60, MIN, MAX);
    }
}
