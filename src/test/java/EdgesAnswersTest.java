import java.lang.reflect.InvocationTargetException;
import java.lang.reflect.Method;
import java.lang.reflect.Modifier;
import java.util.Arrays;
import java.util.Comparator;
import java.util.Random;
import java.util.Set;

/** The sentences about all answers: of several the first, and what is refused changes nothing. */
public final class EdgesAnswersTest {
    private static final Edges EDGES = new Edges("EdgesAnswersTest");
    private static final int BAD = ThreeThrough.BAD, NOT = ThreeThrough.NOT, FULL = ThreeThrough.FULL;
    private static final int STATE = ThreeThrough.STATE;
    private static final int TRIES = 250;
    private static final Set<Long> REFUSALS = Set.of(-1L, -2L, -3L, -5L, -11L, -12L, -13L, -14L, Long.MIN_VALUE);
    /** Edges of the document's numbers, and those far outside. */
    private static final int[] EDGE_VALUES = {Integer.MIN_VALUE, Integer.MIN_VALUE + 1, -101, -100, -11, -10, -2, -1, 0, 1,
        2, 3, 4, 5, 6, 7, 8, 9, 10, 11, 12, 13, 20, 21, 30, 31, 39, 40, 41, 59, 60, 61, 99, 100, 119, 120, 121, 159, 200,
        255, 256, 303, 505, 605, 900, 940, 1000, 4040, 4041, 4095, 4096, 4140, 5960, 6060, Integer.MAX_VALUE - 1,
        Integer.MAX_VALUE};

    private EdgesAnswersTest() {
    }

    public static void main(String[] args) {
        ofSeveralTheFirst();
        ofSeveralTheFirstAtTheEnd();
        whatIsRefusedChangesNothing();
        EDGES.end();
    }

    private static void full(ThreeThrough x) {
        Edges.rich(x);
        x.gate(3);
        Edges.crowd(x, 9);
        Checks.feed(x, "&1" + "+1".repeat(57) + "0");
        for (int i = 3; i < 50; i++) x.body(0);
    }

    private static void ofSeveralTheFirst() {
        EDGES.sentence("Answers, of several the one named first: BAD (-1): no such number, or it is not as said;");
        EDGES.of(EdgesAnswersTest::full);
        EDGES.refused("gate: FULL", x -> x.gate(1), FULL);
        EDGES.refused("gate: BAD and FULL", x -> x.gate(0), BAD);
        EDGES.refused("person: FULL", x -> x.person(1, 1), FULL);
        EDGES.refused("person: BAD and FULL", x -> x.person(1, 10), BAD);
        EDGES.refused("feed: FULL", x -> x.feed('1'), FULL);
        EDGES.refused("feed: BAD and FULL", x -> x.feed(256), BAD);
        EDGES.refused("body: FULL", x -> x.body(0), FULL);
        EDGES.refused("body: BAD and FULL", x -> x.body(8), BAD);
        EDGES.refused("people: -12", x -> x.people(0, 0, 1), -12);
        EDGES.refused("people: BAD and -12", x -> x.people(0, 0, 13), BAD);
        EDGES.refused("row: -14", x -> x.row(0, 0, -1), -14);
        EDGES.refused("row: BAD and -14", x -> x.row(0, 5, -1), BAD);
        EDGES.refused("put: -11, with no place", x -> x.put(5, -1, 1), -11);
        EDGES.refused("put: -12, with no place", x -> x.put(0, -1, 1), -12);
        EDGES.refused("put: -13", x -> x.put(1, -1, 1), -13);
        EDGES.refused("shift: BAD and -11", x -> x.shift(5, -1, 6, -1, -1), BAD);
        EDGES.refused("shift: -11 and -12", x -> x.shift(5, -1, 0, -1, -1), -11);
        EDGES.refused("shift: -12, with no place", x -> x.shift(1, -1, 2, -1, -1), -12);
        EDGES.refused("shift: -13", x -> x.shift(1, -1, 1, -1, -1), -13);
        EDGES.refused("judge: BAD and -11", x -> x.judge(5, 41), BAD);
        EDGES.refused("within: BAD and -12", x -> x.within(0, 41), BAD);
        EDGES.refused("turned: BAD and -11", x -> x.turned(5, 0, 2), BAD);
        EDGES.refused("taken: BAD and -11", x -> x.taken(5, 8), BAD);
        EDGES.refused("escort: BAD and NOT", x -> x.escort(1, 2), BAD);
    }

    private static void ofSeveralTheFirstAtTheEnd() {
        EDGES.sentence("BAD (no such GATE, way, PEOPLE); STATE: NOW is 60; NOT: it can't be");
        EDGES.of(Edges::rich);
        EDGES.refused("pass: NOT", x -> x.pass(0, 0), NOT);
        EDGES.refused("pass: BAD and NOT", x -> x.pass(2, 0), BAD);
        EDGES.refused("tick: STATE", x -> x.tick(54), STATE);
        EDGES.refused("tick: BAD and STATE", x -> x.tick(61), BAD);
        EDGES.of(x -> {
            Edges.rich(x);
            x.tick(53);
        });
        EDGES.refused("pass: STATE", x -> x.pass(1, 3), STATE);
        EDGES.refused("pass: STATE and NOT", x -> x.pass(0, 0), STATE);
        EDGES.refused("pass: BAD, STATE and NOT", x -> x.pass(2, 0), BAD);
    }

    /** Any call with arguments at edges: none throws, and none that is refused changes anything. */
    private static void whatIsRefusedChangesNothing() {
        EDGES.sentence("What is answered so changes nothing.");
        Random random = new Random(9);
        Method[] methods = ThreeThrough.class.getDeclaredMethods();
        // Their order is the machine's otherwise, and with it what is drawn for each.
        Arrays.sort(methods, Comparator.comparing(Method::getName));
        for (Method method : methods) {
            // act() answers any int, and is told by itself: no TRACE then.
            if (!Modifier.isPublic(method.getModifiers()) || method.getName().equals("act")) continue;
            for (int i = 0; i < TRIES; i++) {
                EDGES.of(i % 2 == 0 ? Edges::rich : EdgesAnswersTest::full);
                Object[] arguments = someArguments(method, random);
                long answer = answerOfRich(method, arguments, i % 2 == 0);
                if (REFUSALS.contains(answer)) {
                    String call = method.getName() + Arrays.toString(arguments);
                    EDGES.refused(call, x -> answer(x, method, arguments), answer);
                }
            }
        }
    }

    private static long answerOfRich(Method method, Object[] arguments, boolean rich) {
        ThreeThrough x = new ThreeThrough();
        if (rich) Edges.rich(x);
        else full(x);
        return answer(x, method, arguments);
    }

    private static Object[] someArguments(Method method, Random random) {
        Class<?>[] types = method.getParameterTypes();
        Object[] arguments = new Object[types.length];
        for (int i = 0; i < types.length; i++) {
            int v = EDGE_VALUES[random.nextInt(EDGE_VALUES.length)];
            if (random.nextInt(2) == 0) v = random.nextInt(6);
            if (types[i] == long.class) arguments[i] = (long) v;
            else arguments[i] = v;
        }
        return arguments;
    }

    private static long answer(ThreeThrough x, Method method, Object[] arguments) {
        try {
            return ((Number) method.invoke(x, arguments)).longValue();
        } catch (InvocationTargetException | IllegalAccessException thrown) {
            throw new IllegalStateException(method.getName() + Arrays.toString(arguments), thrown);
        }
    }
}
