/**
 * Gates through which just so many go at a time, and the people who go by them: in deed, in
 * thought by a keeper's way, by counts alone and by chances. The numbered promises are in DOC.md.
 */
public final class ThreeThrough {
    public static final int BAD = -1, NOT = -2, FULL = -3, STATE = -5, VOID = -2000000000;

    private static final int NOTHING_THERE = -11, OTHER_KIND = -12, NO_PLACE = -13, SIZE_BELOW_0 = -14;
    private static final int TIMES = 60, MOST_GATES = 3, MOST_NUMBER = 6, MOST_PEOPLE = 12, MOST_COST = 9;
    private static final int OUT = 0, IN = 1;
    private static final int MAY = 0, COMES = 1, TAPE = 120, FAULTY = -100;
    private static final int MOST_COUNTED = 40, MOST_ABOARD = 9, MOST_SOON = 60;
    private static final int TWELVE = 12, MOST_LOOKS = 8, MOST_DRAWS = 30;
    private static final int COST = 0, RETURNS = 1, NUMBER = 2;
    private static final int SHELVES = 6, PLACES = 60, BYTES = 0, BOOLEANS = 4;
    private static final int PLAIN_BOOK = -1;

    private final Gates gates = new Gates();
    private final People folk = new People();
    private final int[] tape = new int[TAPE];
    private int tapeLength;
    private final Laws laws = new Laws(tape);
    private final Deed deed = new Deed();
    private final Deed kept = new Deed();
    private boolean imageKept;
    private final Day thought = new Day(gates, folk, laws);
    private final Least least = new Least(gates, folk, laws);
    private final Changes changes = new Changes();
    private final long[] there = new long[MOST_NUMBER];
    private final Bodies bodies = new Bodies();
    private final Shelf[] shelves = new Shelf[SHELVES];

    public ThreeThrough() {
        for (int i = 0; i < SHELVES; i++) {
            shelves[i] = new Shelf();
        }
    }

    // ---- gates, people, texts

    public int gate(int number) {
        if (!isNumber(number)) {
            return BAD;
        }
        return gates.add(number);
    }

    public int person(int lr, int cost) {
        if (lr < 0 || !People.fits(lr / 100, lr % 100, cost)) {
            return BAD;
        }
        return folk.add(lr / 100, lr % 100, cost);
    }

    public int people(int shelf, int i, int n) {
        if (!isShelf(shelf) || n < 1 || n > MOST_PEOPLE) {
            return BAD;
        }
        Shelf row = shelves[shelf];
        if (row.isEmpty()) {
            return 0;
        }
        return row.isBook() ? comeFrom(row, i, n) : OTHER_KIND;
    }

    private int comeFrom(Shelf row, int from, int n) {
        for (int came = 0; came < n; came++) {
            long at = from + 3L * came;
            if (at < 0 || at + 2 >= row.size) {
                return came;
            }
            int i = (int) at;
            int leaves = (int) row.at(i);
            int returns = (int) row.at(i + 1);
            int cost = (int) row.at(i + 2);
            if (!People.fits(leaves, returns, cost) || folk.add(leaves, returns, cost) == FULL) {
                return came;
            }
        }
        return n;
    }

    public int mend(int number, int what, int v) {
        if (!canBecome(number, what, v)) {
            return BAD;
        }
        int was = become(number, what, v);
        // What stays as it was is no CHANGE: none to be UNDONE, none behind those that are DONE AGAIN.
        if (was != v) {
            changes.add(number, what, was, v);
        }
        return was;
    }

    private boolean canBecome(int number, int what, int v) {
        switch (what) {
            case COST:
                return folk.has(number) && v >= 1 && v <= MOST_COST;
            case RETURNS:
                return folk.has(number) && v > folk.leaves[number] && v <= TIMES;
            case NUMBER:
                return gates.has(number) && isNumber(v);
            default:
                return false;
        }
    }

    /** Sets what canBecome() let through; answers what it was. */
    private int become(int number, int what, int v) {
        if (what == NUMBER) {
            return gates.has(number) ? replace(gates.numbers, number, v) : BAD;
        }
        if (!folk.has(number)) {
            return BAD;
        }
        return replace(what == COST ? folk.costs : folk.returns, number, v);
    }

    private static int replace(int[] values, int place, int v) {
        int was = values[place];
        values[place] = v;
        return was;
    }

    public int of(int number, int what) {
        if (what == 10) {
            return gates.has(number) ? gates.numbers[number] : BAD;
        }
        if (!folk.has(number)) {
            return BAD;
        }
        switch (what) {
            case 0:
                return folk.leaves[number];
            case 1:
                return folk.returns[number];
            case 2:
                return folk.costs[number];
            case 3:
                return 1 - bit(deed.out, number);
            case 4:
                return bit(deed.gone, number);
            case 5:
                return deed.now < TIMES ? bit(waitingNow(), number) : 0;
            case 6:
                return deed.paid[number];
            default:
                return BAD;
        }
    }

    public int feed(int letter) {
        if (letter < 0 || letter > 255) {
            return BAD;
        }
        if (tapeLength >= TAPE) {
            return FULL;
        }
        tape[tapeLength] = letter;
        tapeLength++;
        return tapeLength;
    }

    public int law(int which) {
        if (which != MAY && which != COMES) {
            return BAD;
        }
        int fault = laws.become(which, tapeLength);
        tapeLength = 0;
        return fault == Reader.NO_FAULT ? 1 : FAULTY - fault;
    }

    public int may(int person, int gs, int time) {
        if (!folk.has(person) || !isGateAndWay(gs) || !isTime(time)) {
            return BAD;
        }
        return laws.lets(folk, person, gs / 10, gs % 10, time) ? 1 : 0;
    }

    public int comes(int gn, int time) {
        if (gn < 0 || !gates.has(gn / 10) || !isTime(time)) {
            return BAD;
        }
        return laws.chance(gn / 10, gn % 10, time);
    }

    // ---- in deed

    public int pass(int gs, int people) {
        if (!isGateAndWay(gs) || people < 0 || people >= (1 << folk.count)) {
            return BAD;
        }
        if (deed.now >= TIMES) {
            return STATE;
        }
        int side = gs % 10 == OUT ? ~deed.out : deed.out;
        if (Integer.bitCount(people) != gates.numberOf(gs / 10) || (people & ~side) != 0) {
            return NOT;
        }
        if (laws.lettingOf(folk, people, gs / 10, gs % 10, deed.now) != people) {
            return NOT;
        }
        deed.move(people, gs % 10);
        return peopleWithin();
    }

    public int tick(int n) {
        if (n < 1 || n > TIMES) {
            return BAD;
        }
        if (deed.now + n > TIMES) {
            return STATE;
        }
        for (int i = 0; i < n; i++) {
            deed.pay(folk, waitingNow());
            deed.now++;
        }
        return deed.now;
    }

    private int waitingNow() {
        return folk.waitingOut(deed.now, deed.gone) | folk.waitingIn(deed.now, deed.out);
    }

    private int peopleWithin() {
        return folk.count - Integer.bitCount(deed.out);
    }

    // ---- days in thought

    public int day(int way, int person, int what) {
        if (!isWay(way) || !folk.has(person) || what < 0 || what > 1) {
            return BAD;
        }
        thought.goThrough(way);
        return what == 0 ? thought.outAt[person] : thought.inAt[person];
    }

    public int sum(int way, int what) {
        if (!isWay(way) || what < 0 || what > 2) {
            return BAD;
        }
        thought.goThrough(way);
        if (what == 0) {
            return thought.cost;
        }
        return what == 1 ? thought.passings : Integer.bitCount(thought.out);
    }

    public int best() {
        if (folk.count > Least.MOST || gates.count == 0) {
            return STATE;
        }
        return least.cost();
    }

    // ---- by counts (wn: 100 times w, and n; w no more than n)

    public long reach(int wn) {
        return isWithinOf(wn) ? gates.everFrom(1L << (wn / 100), wn % 100) : BAD;
    }

    public int steps(int wn, int to) {
        if (!isWithinOf(wn) || to < 0 || to > wn % 100) {
            return BAD;
        }
        return gates.fewestPassings(wn / 100, wn % 100, to);
    }

    public int boat(int wn, int bt) {
        if (!isWithinOf(wn) || bt < 100 || bt / 100 > MOST_ABOARD || bt % 100 > wn % 100) {
            return BAD;
        }
        return gates.fewestTrips(wn / 100, wn % 100, bt / 100, bt % 100);
    }

    /**
     * At the end just n more are out than at first, and each PASSING moves NUMBER: so n is a
     * multiple of NUMBER, or it never can be; and then it needs no WALKERS and no way back.
     */
    public int escort(int gn, int what) {
        if (gn < 0 || !gates.has(gn / 10) || what < 0 || what > 1) {
            return BAD;
        }
        int number = gates.numberOf(gn / 10);
        if (gn % 10 % number != 0) {
            return NOT;
        }
        return what == 0 ? 0 : gn % 10 / number;
    }

    public int soon(int n) {
        if (n < 0 || n > MOST_SOON) {
            return BAD;
        }
        return gates.soonest(n);
    }

    public long waits(int gt, int y, int part) {
        if (gt < 0 || !gates.has(gt / 100) || !isTime(gt % 100)) {
            return Long.MIN_VALUE;
        }
        if (y < 0 || y > MOST_LOOKS || part < 0 || part > 1) {
            return Long.MIN_VALUE;
        }
        long below = 1;
        for (int i = 1; i < y; i++) {
            below *= TWELVE;
        }
        long above = summedWaits(gt / 100, gt % 100, y);
        long common = commonDivisor(above, below);
        return (part == 0 ? above : below) / common;
    }

    /** The mean is the sum, over the looks, of the chance that one must look: here by 12^(y - 1). */
    private long summedWaits(int gate, int time, int y) {
        for (int j = 0; j < MOST_NUMBER; j++) {
            there[j] = j == 0 ? 1 : 0;
        }
        int number = gates.numberOf(gate);
        long summed = 0;
        for (int look = 0; look < y; look++) {
            summed *= TWELVE;
            for (int j = 0; j < number; j++) {
                summed += there[j];
            }
            oneMoreLook(gate, time + look, number);
        }
        return summed;
    }

    /** Downward, so that nobody who comes is counted as coming twice at one TIME. */
    private void oneMoreLook(int gate, int time, int number) {
        for (int j = number - 1; j >= 0; j--) {
            int chance = there[j] == 0 ? 0 : laws.chance(gate, j, time);
            if (j + 1 < number) {
                there[j + 1] += there[j] * chance;
            }
            there[j] *= TWELVE - chance;
        }
    }

    /** Euclid's way: 200 rounds are more than longs can need. */
    private static long commonDivisor(long a, long b) {
        long larger = a;
        long smaller = b;
        for (int i = 0; i < 200 && smaller != 0; i++) {
            long rest = larger % smaller;
            larger = smaller;
            smaller = rest;
        }
        return larger > 0 ? larger : 1;
    }

    public int drawn(int seed, int k, int gate) {
        if (k < 1 || k > MOST_DRAWS || !gates.has(gate)) {
            return BAD;
        }
        int number = gates.numberOf(gate);
        int z = seed;
        int went = 0;
        for (int i = 0; i < k; i++) {
            int waiting = 0;
            for (int time = 0; time < TIMES; time++) {
                z = z * 1103515245 + 12345;
                if ((z >>> 8) % TWELVE < laws.chance(gate, waiting, time)) {
                    waiting++;
                }
                if (waiting >= number) {
                    went += number;
                    waiting = 0;
                }
            }
        }
        return went;
    }

    // ---- books

    public int judge(int shelf, int n) {
        int refusal = refusalOfBook(shelf, n);
        if (refusal != 0) {
            return refusal;
        }
        int behind = readBook(shelves[shelf], n, PLAIN_BOOK);
        return behind >= 0 ? NOT : -1 - behind;
    }

    public int within(int shelf, int n) {
        int refusal = refusalOfBook(shelf, n);
        if (refusal != 0) {
            return refusal;
        }
        int behind = readBook(shelves[shelf], n, PLAIN_BOOK);
        return behind >= 0 ? behind : STATE;
    }

    /** Why a SHELF's BOOK can't be gone through with n people; 0 if it can. */
    private int refusalOfBook(int shelf, int n) {
        if (!isShelf(shelf) || n < 0 || n > MOST_COUNTED) {
            return BAD;
        }
        if (shelves[shelf].isBook()) {
            return 0;
        }
        return shelves[shelf].isEmpty() ? NOTHING_THERE : OTHER_KIND;
    }

    public int turned(int shelf, int wn, int what) {
        if (!isWithinOf(wn) || what < 0 || what > 1) {
            return BAD;
        }
        int refusal = refusalOfBook(shelf, wn % 100);
        if (refusal != 0) {
            return refusal;
        }
        Shelf book = shelves[shelf];
        int fitting = 0;
        int first = NOT;
        for (int two = book.size / 2 - 1; two >= 0; two--) {
            if (readBook(book, wn % 100, two) == wn / 100) {
                fitting++;
                first = two;
            }
        }
        return what == 0 ? fitting : first;
    }

    /**
     * Goes through a BOOK, one of its twos told the other way round: how many are within behind
     * it, or -1 less the first two that cannot be.
     */
    private int readBook(Shelf book, int n, int turnedTwo) {
        int inside = n;
        for (int i = 0; i < book.size; i += 2) {
            int two = i / 2;
            if (i + 1 >= book.size) {
                return -1 - two;
            }
            int gate = (int) book.at(i);
            int told = (int) book.at(i + 1);
            int went = two == turnedTwo ? -told : told;
            if (!gates.has(gate) || Math.abs(went) != gates.numberOf(gate)) {
                return -1 - two;
            }
            inside -= went;
            if (inside < 0 || inside > n) {
                return -1 - two;
            }
        }
        return inside;
    }

    public int image() {
        kept.takeFrom(deed);
        imageKept = true;
        return deed.now;
    }

    public int back() {
        if (!imageKept) {
            return STATE;
        }
        deed.takeFrom(kept);
        return deed.now;
    }

    public int undo() {
        int change = changes.lastDone();
        if (change < 0) {
            return STATE;
        }
        become(changes.numbers[change], changes.whats[change], changes.were[change]);
        return changes.stepBack();
    }

    public int redo() {
        int change = changes.firstUndone();
        if (change < 0) {
            return STATE;
        }
        become(changes.numbers[change], changes.whats[change], changes.became[change]);
        return changes.stepOn();
    }

    // ---- acts, shelves

    public int body(int kind) {
        if (!Bodies.isKind(kind)) {
            return BAD;
        }
        return bodies.add(kind);
    }

    public int act(int body, int act, int x) {
        return bodies.perform(body, act, x);
    }

    public int trace(int i) {
        return i >= 0 && i < bodies.traced() ? bodies.begun[i] : BAD;
    }

    public int keep(int shelf, int body) {
        if (!isShelf(shelf) || (body != Shelf.NO_BODY && !bodies.has(body))) {
            return BAD;
        }
        shelves[shelf].holdBody(body);
        return 1;
    }

    public int row(int shelf, int sort, int n) {
        if (!isShelf(shelf) || sort < BYTES || sort > BOOLEANS || n > PLACES) {
            return BAD;
        }
        if (n < 0) {
            return SIZE_BELOW_0;
        }
        shelves[shelf].holdRow(sort, n);
        return 1;
    }

    public int put(int shelf, int i, long v) {
        int refusal = refusalAt(shelf, i);
        if (refusal != 0) {
            return refusal;
        }
        shelves[shelf].set(i, v);
        return 1;
    }

    public long element(int shelf, int i) {
        return refusalAt(shelf, i) == 0 ? shelves[shelf].at(i) : Long.MIN_VALUE;
    }

    /** Why element i of a SHELF's ROW can't be had; 0 if it can. */
    private int refusalAt(int shelf, int i) {
        if (!isShelf(shelf)) {
            return BAD;
        }
        Shelf row = shelves[shelf];
        if (!row.isRow()) {
            return row.isEmpty() ? NOTHING_THERE : OTHER_KIND;
        }
        return row.hasPlaces(i, 1) ? 0 : NO_PLACE;
    }

    public int shift(int shelf, int i, int other, int j, int n) {
        if (!isShelf(shelf) || !isShelf(other)) {
            return BAD;
        }
        Shelf from = shelves[shelf];
        Shelf to = shelves[other];
        if (from.isEmpty() || to.isEmpty()) {
            return NOTHING_THERE;
        }
        if (!from.isRow() || !to.isRow() || from.sort != to.sort) {
            return OTHER_KIND;
        }
        if (!from.hasPlaces(i, n) || !to.hasPlaces(j, n)) {
            return NO_PLACE;
        }
        System.arraycopy(from.elements, i, to.elements, j, n);
        return n;
    }

    public int taken(int shelf, int k) {
        if (!isShelf(shelf) || !Bodies.isKind(k)) {
            return BAD;
        }
        Shelf held = shelves[shelf];
        if (held.isEmpty()) {
            return NOTHING_THERE;
        }
        if (held.isRow()) {
            return OTHER_KIND;
        }
        int kind = bodies.kindOf(held.body);
        return Bodies.isUnder(kind, k) ? kind : OTHER_KIND;
    }

    public int count(int what) {
        switch (what) {
            case 0:
                return folk.count;
            case 1:
                return gates.count;
            case 2:
                return deed.now;
            case 3:
                return peopleWithin();
            case 4:
                return tapeLength;
            case 5:
                return changes.done;
            case 6:
                return bodies.count;
            case 7:
                return bodies.ran;
            default:
                return BAD;
        }
    }

    // ---- what the calls ask of their arguments

    private static boolean isNumber(int number) {
        return number >= 1 && number <= MOST_NUMBER;
    }

    private static boolean isTime(int time) {
        return time >= 0 && time < TIMES;
    }

    private static boolean isWay(int way) {
        return way >= Day.LONGEST_WAIT && way <= Day.SUMS_ONLY;
    }

    private static boolean isShelf(int shelf) {
        return shelf >= 0 && shelf < SHELVES;
    }

    private static boolean isWithinOf(int wn) {
        return wn >= 0 && wn % 100 <= MOST_COUNTED && wn / 100 <= wn % 100;
    }

    private boolean isGateAndWay(int gs) {
        return gs >= 0 && gates.has(gs / 10) && gs % 10 <= IN;
    }

    private static int bit(int bits, int place) {
        return (bits >> place) & 1;
    }

    /** The GATES, and what their NUMBERS let be by counts alone (sets of counts are bits). */
    private static final class Gates {
        final int[] numbers = new int[MOST_GATES];
        int count;

        int add(int number) {
            if (count >= MOST_GATES) {
                return FULL;
            }
            numbers[count] = number;
            count++;
            return count - 1;
        }

        boolean has(int gate) {
            return gate >= 0 && gate < count;
        }

        /** Never 0, as it is a divisor and a stride for its callers. */
        int numberOf(int gate) {
            return has(gate) ? numbers[gate] : 1;
        }

        private static long upTo(int n) {
            return (1L << (n + 1)) - 1;
        }

        static boolean hold(long counts, int one) {
            return ((counts >> one) & 1) != 0;
        }

        private long onePassing(long counts, int n) {
            long all = counts;
            for (int g = 0; g < count; g++) {
                all |= (counts >> numbers[g]) | ((counts << numbers[g]) & upTo(n));
            }
            return all;
        }

        /** Each round but the last finds a new count of the n + 1. */
        long everFrom(long counts, int n) {
            long all = counts;
            for (int round = 0; round <= n; round++) {
                long more = onePassing(all, n);
                if (more == all) {
                    return all;
                }
                all = more;
            }
            return all;
        }

        int fewestPassings(int from, int n, int to) {
            long counts = 1L << from;
            for (int passings = 0; passings <= n; passings++) {
                if (hold(counts, to)) {
                    return passings;
                }
                counts = onePassing(counts, n);
            }
            return NOT;
        }

        int fewestTrips(int from, int n, int aboard, int to) {
            long counts = everFrom(1L << from, n);
            for (int trips = 0; trips <= n; trips++) {
                if (hold(counts, to)) {
                    return trips;
                }
                counts = everFrom(oneTrip(counts, n, aboard), n);
            }
            return NOT;
        }

        private static long oneTrip(long counts, int n, int aboard) {
            long all = counts;
            for (int b = 1; b <= aboard; b++) {
                all |= (counts >> b) | ((counts << b) & upTo(n));
            }
            return all;
        }

        /** Sums of NUMBERS, each GATE's at most so many times; those above 63 fall off. */
        long sumsOf(int most) {
            long sums = 1;
            for (int g = 0; g < count; g++) {
                long shifted = sums;
                for (int k = 0; k < most; k++) {
                    shifted <<= numbers[g];
                    sums |= shifted;
                }
            }
            return sums;
        }

        /** A NUMBER is 1 at least, so no sum n needs one more than n times. */
        int soonest(int n) {
            for (int t = 0; t <= n; t++) {
                if (hold(sumsOf(t), n)) {
                    return t;
                }
            }
            return NOT;
        }
    }

    /** The PEOPLE as they came; sets of them are bits. */
    private static final class People {
        final int[] leaves = new int[MOST_PEOPLE];
        final int[] returns = new int[MOST_PEOPLE];
        final int[] costs = new int[MOST_PEOPLE];
        int count;

        static boolean fits(int leaves, int returns, int cost) {
            return isTime(leaves) && returns > leaves && returns <= TIMES && cost >= 1 && cost <= MOST_COST;
        }

        int add(int leaving, int returning, int cost) {
            if (count >= MOST_PEOPLE) {
                return FULL;
            }
            leaves[count] = leaving;
            returns[count] = returning;
            costs[count] = cost;
            count++;
            return count - 1;
        }

        boolean has(int person) {
            return person >= 0 && person < count;
        }

        private int dueBy(int[] times, int time) {
            int due = 0;
            for (int p = 0; p < count; p++) {
                if (times[p] <= time) {
                    due |= 1 << p;
                }
            }
            return due;
        }

        /** Who has not gone out is within. */
        int waitingOut(int time, int gone) {
            return dueBy(leaves, time) & ~gone;
        }

        int waitingIn(int time, int out) {
            return out == 0 ? 0 : dueBy(returns, time) & out;
        }

        int costOf(int group) {
            int sum = 0;
            for (int p = 0; p < count; p++) {
                if (bit(group, p) != 0) {
                    sum += costs[p];
                }
            }
            return sum;
        }
    }

    /** A LAW's text as postfix code: its ops are the signs of the text, and the three below. */
    private static final class Law {
        static final int VALUE = 0, NAME = 1, NEGATED = 2, NAMES = 6;
        // One op at most for each byte, and one behind the last line.
        private static final int MOST_OPS = TAPE + 1;

        private final int[] ops = new int[MOST_OPS];
        private final int[] args = new int[MOST_OPS];
        private final int[] stack = new int[MOST_OPS];
        private int size;
        boolean told;

        void clear() {
            size = 0;
        }

        void add(int op, int arg) {
            if (size < MOST_OPS) {
                ops[size] = op;
                args[size] = arg;
                size++;
            }
        }

        void takeFrom(Law other) {
            System.arraycopy(other.ops, 0, ops, 0, MOST_OPS);
            System.arraycopy(other.args, 0, args, 0, MOST_OPS);
            size = other.size;
            told = true;
        }

        /**
         * The first line that counts; one without a first E counts as if that were 1. What Reader
         * wrote never lacks operands, so the looks at top only keep the places within the stack.
         */
        int value(int[] names) {
            int top = 0;
            int first = 1;
            for (int i = 0; i < size && top < MOST_OPS; i++) {
                int op = ops[i];
                if (op == VALUE) {
                    stack[top] = args[i];
                    top++;
                } else if (op == NAME) {
                    stack[top] = args[i] >= 0 && args[i] < names.length ? names[args[i]] : 0;
                    top++;
                } else if (top < 1) {
                    return 0;
                } else if (op == NEGATED) {
                    stack[top - 1] = -stack[top - 1];
                } else if (op == '!') {
                    stack[top - 1] = stack[top - 1] == 0 ? 1 : 0;
                } else if (op == '?') {
                    top--;
                    first = stack[top];
                } else if (op == ';') {
                    top--;
                    if (first != 0) {
                        return stack[top];
                    }
                    first = 1;
                } else if (top >= 2) {
                    top--;
                    stack[top - 1] = joined(op, stack[top - 1], stack[top]);
                }
            }
            return 0;
        }

        private static int joined(int op, int left, int right) {
            switch (op) {
                case '+':
                    return left + right;
                case '-':
                    return left - right;
                case '*':
                    return left * right;
                case '/':
                    return right == 0 ? 0 : left / right;
                case '%':
                    return right == 0 ? 0 : left % right;
                case '<':
                    return left < right ? 1 : 0;
                case '=':
                    return left == right ? 1 : 0;
                case '>':
                    return left > right ? 1 : 0;
                case '&':
                    return left != 0 && right != 0 ? 1 : 0;
                case '|':
                    return left != 0 || right != 0 ? 1 : 0;
                default:
                    return 0;
            }
        }
    }

    /** Reads the TEXT on THE TAPE, and stops at its FAULT. */
    private static final class Reader {
        static final int NO_FAULT = -1;
        private static final int END = -1, MOST_OPEN = 6, MOST_DIGITS = 4;
        // How tightly operators bind: 0 the loosest; behind the tightest come the operands.
        private static final int LOOSEST = 0, COMPARING = 2, OPERAND = 5, NO_OPERATOR = -1, NO_NAME = -1;

        final Law into = new Law();
        private final int[] text;
        private int length;
        private int place;
        private boolean fine;

        Reader(int[] text) {
            this.text = text;
        }

        /** Its FAULT; without one into is what was read. */
        int read(int bytes) {
            length = bytes;
            place = 0;
            fine = true;
            into.clear();
            line();
            for (int lines = 1; lines < length && fine && sign() == ';'; lines++) {
                place++;
                line();
            }
            return fine && place >= length ? NO_FAULT : place;
        }

        private int sign() {
            return place < length && place < text.length ? text[place] : END;
        }

        private void line() {
            chain(LOOSEST, 0);
            if (fine && sign() == '?') {
                place++;
                into.add('?', 0);
                chain(LOOSEST, 0);
            }
            into.add(';', 0);
        }

        private void chain(int level, int open) {
            if (level >= OPERAND) {
                operand(open);
                return;
            }
            chain(level + 1, open);
            for (int i = 0; i < length && fine && levelOf(sign()) == level; i++) {
                int operator = sign();
                place++;
                chain(level + 1, open);
                into.add(operator, 0);
                if (level == COMPARING) {
                    return;
                }
            }
        }

        private static int levelOf(int sign) {
            switch (sign) {
                case '|':
                    return LOOSEST;
                case '&':
                    return 1;
                case '<':
                case '=':
                case '>':
                    return COMPARING;
                case '+':
                case '-':
                    return 3;
                case '*':
                case '/':
                case '%':
                    return 4;
                default:
                    return NO_OPERATOR;
            }
        }

        private void operand(int open) {
            int sign = sign();
            if (isDigit(sign)) {
                number();
            } else if (nameOf(sign) != NO_NAME) {
                into.add(Law.NAME, nameOf(sign));
                place++;
            } else if (open < MOST_OPEN && (sign == '(' || sign == '!' || sign == '-')) {
                place++;
                opened(sign, open + 1);
            } else {
                fine = false;
            }
        }

        private void opened(int sign, int open) {
            if (sign != '(') {
                operand(open);
                into.add(sign == '!' ? '!' : Law.NEGATED, 0);
                return;
            }
            chain(LOOSEST, open);
            if (fine && sign() == ')') {
                place++;
            } else {
                fine = false;
            }
        }

        private void number() {
            int v = 0;
            for (int digits = 0; digits < MOST_DIGITS && isDigit(sign()); digits++) {
                v = v * 10 + sign() - '0';
                place++;
            }
            into.add(Law.VALUE, v);
        }

        private static boolean isDigit(int sign) {
            return sign >= '0' && sign <= '9';
        }

        /** The place in the order in which Laws.name() takes the values. */
        private static int nameOf(int sign) {
            switch (sign) {
                case 't':
                    return 0;
                case 'g':
                    return 1;
                case 'p':
                    return 2;
                case 'c':
                    return 3;
                case 's':
                    return 4;
                case 'n':
                    return 5;
                default:
                    return NO_NAME;
            }
        }
    }

    /** LAW 0 and LAW 1, with what counts where there is no text. */
    private static final class Laws {
        private static final int UNTOLD_CHANCE = 6;

        private final int[] names = new int[Law.NAMES];
        private final Law mays = new Law();
        private final Law comings = new Law();
        private final Reader reader;

        Laws(int[] tape) {
            reader = new Reader(tape);
        }

        /** Answers the FAULT; with one the law stays what it was. */
        int become(int which, int bytes) {
            int fault = reader.read(bytes);
            if (fault == Reader.NO_FAULT) {
                (which == MAY ? mays : comings).takeFrom(reader.into);
            }
            return fault;
        }

        private void name(int t, int g, int p, int c, int s, int n) {
            names[0] = t;
            names[1] = g;
            names[2] = p;
            names[3] = c;
            names[4] = s;
            names[5] = n;
        }

        boolean lets(People folk, int person, int gate, int way, int time) {
            if (!mays.told || !folk.has(person)) {
                return true;
            }
            name(time, gate, person, folk.costs[person], way, 0);
            return mays.value(names) != 0;
        }

        /** Those of a group who MAY. */
        int lettingOf(People folk, int group, int gate, int way, int time) {
            int letting = group;
            for (int p = 0; p < folk.count && mays.told; p++) {
                if (bit(group, p) != 0 && !lets(folk, p, gate, way, time)) {
                    letting &= ~(1 << p);
                }
            }
            return letting;
        }

        int chance(int gate, int there, int time) {
            if (!comings.told) {
                return UNTOLD_CHANCE;
            }
            name(time, gate, 0, 0, 0, there);
            return Math.max(0, Math.min(TWELVE, comings.value(names)));
        }
    }

    /** What is so in deed, and what an IMAGE keeps: those who come later are within, and new. */
    private static final class Deed {
        final int[] paid = new int[MOST_PEOPLE];
        int now;
        int out;
        int gone;

        void move(int group, int way) {
            if (way == OUT) {
                out |= group;
                gone |= group;
            } else {
                out &= ~group;
            }
        }

        void pay(People folk, int waiting) {
            for (int p = 0; p < folk.count; p++) {
                if (bit(waiting, p) != 0) {
                    paid[p] += folk.costs[p];
                }
            }
        }

        void takeFrom(Deed other) {
            now = other.now;
            out = other.out;
            gone = other.gone;
            System.arraycopy(other.paid, 0, paid, 0, MOST_PEOPLE);
        }
    }

    /** A DAY in thought. */
    private static final class Day {
        static final int LONGEST_WAIT = 0, MOST_COST_FIRST = 1, SUMS_ONLY = 2;

        private final Gates gates;
        private final People folk;
        private final Laws laws;
        final int[] outAt = new int[MOST_PEOPLE];
        final int[] inAt = new int[MOST_PEOPLE];
        private int way;
        private long sums;
        private int gone;
        int out;
        int cost;
        int passings;

        Day(Gates gates, People folk, Laws laws) {
            this.gates = gates;
            this.folk = folk;
            this.laws = laws;
        }

        void goThrough(int keepersWay) {
            begin(keepersWay);
            for (int time = 0; time < TIMES; time++) {
                for (int gate = 0; gate < gates.count; gate++) {
                    letThrough(gate, OUT, time, folk.waitingOut(time, gone));
                    letThrough(gate, IN, time, folk.waitingIn(time, out));
                }
                cost += folk.costOf(folk.waitingOut(time, gone) | folk.waitingIn(time, out));
            }
        }

        private void begin(int keepersWay) {
            way = keepersWay;
            sums = gates.sumsOf(MOST_PEOPLE);
            gone = 0;
            out = 0;
            cost = 0;
            passings = 0;
            for (int p = 0; p < MOST_PEOPLE; p++) {
                outAt[p] = NOT;
                inAt[p] = NOT;
            }
        }

        /** Nobody begins to wait while others pass, so who waits and MAY is looked at once. */
        private void letThrough(int gate, int side, int time, int waiting) {
            int number = gates.numberOf(gate);
            if (Integer.bitCount(waiting) < number) {
                return;
            }
            int left = laws.lettingOf(folk, waiting, gate, side, time);
            for (int i = 0; i < MOST_PEOPLE && Integer.bitCount(left) >= number && isLet(side, number); i++) {
                for (int k = 0; k < number; k++) {
                    int first = firstOf(left, side);
                    left &= ~(1 << first);
                    move(first, side, time);
                }
                passings++;
            }
        }

        private boolean isLet(int side, int number) {
            return way != SUMS_ONLY || side == IN || Gates.hold(sums, Integer.bitCount(out) + number);
        }

        private int firstOf(int group, int side) {
            int first = 0;
            int least = Integer.MAX_VALUE;
            for (int p = 0; p < folk.count; p++) {
                if (bit(group, p) != 0 && turnOf(p, side) < least) {
                    least = turnOf(p, side);
                    first = p;
                }
            }
            return first;
        }

        private int turnOf(int person, int side) {
            if (way == MOST_COST_FIRST) {
                return -folk.costs[person];
            }
            return side == OUT ? folk.leaves[person] : folk.returns[person];
        }

        private void move(int person, int side, int time) {
            if (side == OUT) {
                out |= 1 << person;
                gone |= 1 << person;
                outAt[person] = time;
            } else {
                out &= ~(1 << person);
                inAt[person] = time;
            }
        }
    }

    /**
     * BEST: for each pair of sets (who has gone out, who of these is out still) the least SUM
     * with which it can be so, TIME by TIME.
     */
    private static final class Least {
        static final int MOST = 5;
        private static final int SETS = 1 << MOST, NEVER = Integer.MAX_VALUE;

        private final Gates gates;
        private final People folk;
        private final Laws laws;
        private final int[] sums = new int[SETS * SETS];
        private final int[] groups = new int[SETS];
        private int groupCount;
        private int sets;

        Least(Gates gates, People folk, Laws laws) {
            this.gates = gates;
            this.folk = folk;
            this.laws = laws;
        }

        int cost() {
            sets = 1 << Math.min(MOST, folk.count);
            for (int i = 0; i < SETS * SETS; i++) {
                sums[i] = i == 0 ? 0 : NEVER;
            }
            for (int time = 0; time < TIMES; time++) {
                findGroups(folk.waitingOut(time, 0), OUT, time);
                if (groupCount > 0) {
                    goOut();
                }
                findGroups(folk.waitingIn(time, sets - 1), IN, time);
                if (groupCount > 0) {
                    comeIn();
                }
                payAll(time);
            }
            int best = NEVER;
            for (int i = 0; i < SETS * SETS; i++) {
                best = Math.min(best, sums[i]);
            }
            return best;
        }

        private void findGroups(int due, int side, int time) {
            int free = laws.lettingOf(folk, due, 0, side, time);
            groupCount = 0;
            for (int group = 1; group < sets; group++) {
                if ((group & ~free) == 0 && Integer.bitCount(group) == gates.numberOf(0)) {
                    groups[groupCount] = group;
                    groupCount++;
                }
            }
        }

        /** Upward, as a PASSING out leads to a larger set: so several can follow one another. */
        private void goOut() {
            for (int gone = 0; gone < sets; gone++) {
                for (int out = 0; out <= gone; out++) {
                    int sum = sums[gone * SETS + out];
                    for (int i = 0; i < groupCount && sum != NEVER; i++) {
                        if ((groups[i] & gone) == 0) {
                            lower((gone | groups[i]) * SETS + (out | groups[i]), sum);
                        }
                    }
                }
            }
        }

        /** Downward, as a PASSING in leads to fewer who are out. */
        private void comeIn() {
            for (int gone = 0; gone < sets; gone++) {
                for (int out = gone; out > 0; out--) {
                    int sum = sums[gone * SETS + out];
                    for (int i = 0; i < groupCount && sum != NEVER; i++) {
                        if ((groups[i] & ~out) == 0) {
                            lower(gone * SETS + (out & ~groups[i]), sum);
                        }
                    }
                }
            }
        }

        private void lower(int state, int sum) {
            sums[state] = Math.min(sums[state], sum);
        }

        private void payAll(int time) {
            int leaving = folk.waitingOut(time, 0);
            int returning = folk.waitingIn(time, sets - 1);
            for (int gone = 0; gone < sets; gone++) {
                for (int out = 0; out <= gone; out++) {
                    if (sums[gone * SETS + out] != NEVER) {
                        sums[gone * SETS + out] += folk.costOf((leaving & ~gone) | (returning & out));
                    }
                }
            }
        }
    }

    /** CHANGES that can be UNDONE (the first ones, so many as are done) and DONE AGAIN (the rest). */
    private static final class Changes {
        private static final int MOST = 40;

        final int[] numbers = new int[MOST];
        final int[] whats = new int[MOST];
        final int[] were = new int[MOST];
        final int[] became = new int[MOST];
        private int size;
        int done;

        void add(int number, int what, int was, int v) {
            if (done >= MOST) {
                forgetOldest(numbers);
                forgetOldest(whats);
                forgetOldest(were);
                forgetOldest(became);
                done = MOST - 1;
            }
            numbers[done] = number;
            whats[done] = what;
            were[done] = was;
            became[done] = v;
            done++;
            size = done;
        }

        private static void forgetOldest(int[] values) {
            System.arraycopy(values, 1, values, 0, MOST - 1);
        }

        /** Below 0: there is none. */
        int lastDone() {
            return done - 1;
        }

        /** Below 0: there is none. */
        int firstUndone() {
            return done < size ? done : -1;
        }

        int stepBack() {
            done--;
            return done;
        }

        int stepOn() {
            done++;
            return size - done;
        }
    }

    /** BODIES, and the run of their acts by KIND. */
    private static final class Bodies {
        private static final int MOST = 50, MOST_TRACED = 24, DEEPEST = 40, KINDS = 8, ACTS = 4;
        private static final int OPENS = 0, COUNTS = 1, WAITS = 2, TELLS = 3;
        private static final int NONE_ABOVE = -1, NO_RUN = 0;
        private static final int[] ABOVE = {NONE_ABOVE, 0, 0, 2, 1, 3, 0, 6};
        // For each KIND the body of acts that it has of its own for each ACT.
        private static final int[] OWN = {
            1, 10, 11, 2,
            20, NO_RUN, NO_RUN, NO_RUN,
            NO_RUN, 30, NO_RUN, NO_RUN,
            NO_RUN, 41, 40, NO_RUN,
            NO_RUN, NO_RUN, NO_RUN, 50,
            NO_RUN, NO_RUN, 60, 61,
            70, NO_RUN, NO_RUN, NO_RUN,
            81, 80, NO_RUN, NO_RUN,
        };

        private final int[] kinds = new int[MOST];
        final int[] begun = new int[MOST_TRACED];
        int count;
        int ran;
        private int actor;
        private int actorKind;

        static boolean isKind(int kind) {
            return kind >= 0 && kind < KINDS;
        }

        /** Whether a KIND is that one or under it. */
        static boolean isUnder(int kind, int that) {
            int one = kind;
            for (int up = 0; up < KINDS && isKind(one); up++) {
                if (one == that) {
                    return true;
                }
                one = ABOVE[one];
            }
            return false;
        }

        int add(int kind) {
            if (count >= MOST) {
                return FULL;
            }
            kinds[count] = kind;
            count++;
            return count - 1;
        }

        boolean has(int body) {
            return body >= 0 && body < count;
        }

        int kindOf(int body) {
            return has(body) ? kinds[body] : NONE_ABOVE;
        }

        int traced() {
            return Math.min(ran, MOST_TRACED);
        }

        int perform(int body, int act, int x) {
            ran = 0;
            if (!has(body) || act < 0 || act >= ACTS) {
                return 0;
            }
            actor = body;
            actorKind = kinds[body];
            return own(act, x, 0);
        }

        private int own(int act, int x, int depth) {
            return run(runFrom(actorKind, act), x, depth + 1);
        }

        /** super: bodies of acts 10 to 19 are KEEPER's, 20 to 29 those of the KIND 1, and so on. */
        private int above(int runNumber, int act, int x, int depth) {
            int kind = runNumber / 10 - 1;
            return run(runFrom(isKind(kind) ? ABOVE[kind] : NONE_ABOVE, act), x, depth + 1);
        }

        private static int runFrom(int kind, int act) {
            int one = kind;
            for (int up = 0; up < KINDS && isKind(one); up++) {
                if (OWN[one * ACTS + act] != NO_RUN) {
                    return OWN[one * ACTS + act];
                }
                one = ABOVE[one];
            }
            return NO_RUN;
        }

        private void begin(int runNumber) {
            if (ran < MOST_TRACED) {
                begun[ran] = runNumber;
            }
            ran++;
        }

        private int run(int number, int x, int depth) {
            if (number == NO_RUN || depth > DEEPEST) {
                return 0;
            }
            begin(number);
            switch (number) {
                case 1:
                    return x + actor;
                case 2:
                    return own(COUNTS, x, depth) - own(WAITS, 1, depth);
                case 10:
                    return own(OPENS, x, depth) * 2;
                case 11:
                    return x ^ actor;
                case 20:
                    return above(number, OPENS, x, depth) + 3;
                case 30:
                    return -above(number, COUNTS, x, depth);
                case 40:
                    return above(number, WAITS, x, depth) * 3;
                case 41:
                    return above(number, COUNTS, x + 1, depth);
                case 50:
                    return above(number, TELLS, x, depth) ^ 5;
                case 60:
                    return above(number, WAITS, x, depth) - own(OPENS, 2, depth);
                case 61:
                    return above(number, TELLS, x, depth) + 1;
                case 70:
                    return above(number, OPENS, x, depth) * 2;
                case 80:
                    return above(number, COUNTS, x, depth) + own(WAITS, 2, depth);
                case 81:
                    return above(number, OPENS, x, depth) - 1;
                default:
                    return 0;
            }
        }
    }

    /** Holds nothing, a BODY or a ROW; the room for a ROW is made once and used again. */
    private static final class Shelf {
        static final int NO_BODY = -1;
        private static final int NO_ROW = -1, SHORTS = 1, INTS = 2;

        final long[] elements = new long[PLACES];
        int body = NO_BODY;
        int sort = NO_ROW;
        int size;

        boolean isRow() {
            return sort != NO_ROW;
        }

        boolean isEmpty() {
            return !isRow() && body == NO_BODY;
        }

        boolean isBook() {
            return sort == BYTES;
        }

        void holdBody(int number) {
            body = number;
            sort = NO_ROW;
            size = 0;
        }

        void holdRow(int rowSort, int n) {
            body = NO_BODY;
            sort = rowSort;
            size = n;
            for (int i = 0; i < PLACES; i++) {
                elements[i] = 0;
            }
        }

        boolean hasPlaces(int from, int n) {
            return from >= 0 && n >= 0 && from <= size - (long) n;
        }

        long at(int i) {
            return hasPlaces(i, 1) ? elements[i] : 0;
        }

        void set(int i, long v) {
            if (hasPlaces(i, 1)) {
                elements[i] = kept(v);
            }
        }

        private long kept(long v) {
            switch (sort) {
                case BYTES:
                    return (byte) v;
                case SHORTS:
                    return (short) v;
                case INTS:
                    return (int) v;
                case BOOLEANS:
                    return v != 0 ? 1 : 0;
                default:
                    return v;
            }
        }
    }
}
