import java.lang.reflect.Array;
import java.math.BigInteger;
import java.util.ArrayDeque;
import java.util.ArrayList;
import java.util.Comparator;
import java.util.Deque;
import java.util.HashMap;
import java.util.HashSet;
import java.util.List;
import java.util.Map;
import java.util.Set;

/**
 * The document told a second time, with the Java library and without a thought for speed or room:
 * its answers are held against those of the class.
 */
final class Model {
    private static final int BAD = -1, NOT = -2, FULL = -3, STATE = -5;
    private static final Class<?>[] SORTS = {byte.class, short.class, int.class, long.class, boolean.class};

    private static final class Person {
        final int number;
        final int leaves;
        int returns;
        int cost;
        boolean within = true;
        boolean gone;
        int paid;

        Person(int number, int leaves, int returns, int cost) {
            this.number = number;
            this.leaves = leaves;
            this.returns = returns;
            this.cost = cost;
        }

        boolean waits(int time, boolean in, boolean hasGone) {
            return in ? !hasGone && time >= leaves : time >= returns;
        }
    }

    private record Change(int number, int what, int was, int v) {
    }

    private record Snapshot(int now, List<int[]> people) {
    }

    /** A day in thought: where everybody is (0 within, 1 out, 2 in again). */
    private static final class Thought {
        int[] where;
        int[] outAt;
        int[] inAt;
        int cost;
        int passings;
    }

    private final List<Integer> gates = new ArrayList<>();
    private final List<Person> people = new ArrayList<>();
    private final StringBuilder tape = new StringBuilder();
    private final String[] laws = new String[2];
    private int now;
    private Snapshot image;
    private final List<Change> done = new ArrayList<>();
    private final Deque<Change> undone = new ArrayDeque<>();
    private final List<ActsModel.Keeper> bodies = new ArrayList<>();
    private final List<Integer> trace = new ArrayList<>();
    private final Object[] shelves = new Object[6];

    private boolean isGate(int g) {
        return g >= 0 && g < gates.size();
    }

    private boolean isPerson(int p) {
        return p >= 0 && p < people.size();
    }

    int gate(int number) {
        if (number < 1 || number > 6) return BAD;
        if (gates.size() == 3) return FULL;
        gates.add(number);
        return gates.size() - 1;
    }

    private boolean comes(int leaves, int returns, int cost) {
        return leaves >= 0 && leaves <= 59 && returns > leaves && returns <= 60 && cost >= 1 && cost <= 9;
    }

    int person(int lr, int cost) {
        int leaves = Math.floorDiv(lr, 100);
        int returns = Math.floorMod(lr, 100);
        if (!comes(leaves, returns, cost)) return BAD;
        if (people.size() == 12) return FULL;
        people.add(new Person(people.size(), leaves, returns, cost));
        return people.size() - 1;
    }

    int people(int shelf, int i, int n) {
        if (shelf < 0 || shelf > 5 || n < 1 || n > 12) return BAD;
        if (shelves[shelf] != null && !(shelves[shelf] instanceof byte[])) return -12;
        int came = 0;
        try {
            byte[] row = (byte[]) shelves[shelf];
            for (int at = i; came < n; at += 3) {
                int leaves = row[at], returns = row[at + 1], cost = row[at + 2];
                if (!comes(leaves, returns, cost) || person(100 * leaves + returns, cost) < 0) break;
                came++;
            }
        } catch (NullPointerException | ArrayIndexOutOfBoundsException end) {
            return came;
        }
        return came;
    }

    private int set(int number, int what, int v) {
        int was;
        if (what == 0) {
            was = people.get(number).cost;
            people.get(number).cost = v;
        } else if (what == 1) {
            was = people.get(number).returns;
            people.get(number).returns = v;
        } else {
            was = gates.set(number, v);
        }
        return was;
    }

    int mend(int number, int what, int v) {
        if (what < 0 || what > 2) return BAD;
        if (what < 2 && !isPerson(number)) return BAD;
        if (what == 0 && (v < 1 || v > 9)) return BAD;
        if (what == 1 && (v <= people.get(number).leaves || v > 60)) return BAD;
        if (what == 2 && (!isGate(number) || v < 1 || v > 6)) return BAD;
        int was = set(number, what, v);
        if (was == v) return was;
        done.add(new Change(number, what, was, v));
        if (done.size() > 40) done.remove(0);
        undone.clear();
        return was;
    }

    int of(int number, int what) {
        if (what == 10) return isGate(number) ? gates.get(number) : BAD;
        if (!isPerson(number)) return BAD;
        Person p = people.get(number);
        return switch (what) {
            case 0 -> p.leaves;
            case 1 -> p.returns;
            case 2 -> p.cost;
            case 3 -> p.within ? 1 : 0;
            case 4 -> p.gone ? 1 : 0;
            case 5 -> now < 60 && p.waits(now, p.within, p.gone) ? 1 : 0;
            case 6 -> p.paid;
            default -> BAD;
        };
    }

    int feed(int letter) {
        if (letter < 0 || letter > 255) return BAD;
        if (tape.length() == 120) return FULL;
        tape.append((char) letter);
        return tape.length();
    }

    int law(int which) {
        if (which != 0 && which != 1) return BAD;
        String text = tape.toString();
        tape.setLength(0);
        int fault = TextModel.fault(text);
        if (fault >= 0) return -100 - fault;
        laws[which] = text;
        return 1;
    }

    private boolean lets(int p, int g, int s, int t) {
        return laws[0] == null || TextModel.value(laws[0], t, g, p, people.get(p).cost, s, 0) != 0;
    }

    private int twelfths(int g, int n, int t) {
        if (laws[1] == null) return 6;
        return Math.min(12, Math.max(0, TextModel.value(laws[1], t, g, 0, 0, 0, n)));
    }

    int may(int person, int gs, int time) {
        if (!isPerson(person) || gs < 0 || !isGate(gs / 10) || gs % 10 > 1 || time < 0 || time > 59) return BAD;
        return lets(person, gs / 10, gs % 10, time) ? 1 : 0;
    }

    int comes(int gn, int time) {
        if (gn < 0 || !isGate(gn / 10) || time < 0 || time > 59) return BAD;
        return twelfths(gn / 10, gn % 10, time);
    }

    private int inside() {
        return (int) people.stream().filter(p -> p.within).count();
    }

    int pass(int gs, int set) {
        if (gs < 0 || !isGate(gs / 10) || gs % 10 > 1 || set < 0 || set >> people.size() != 0) return BAD;
        if (now == 60) return STATE;
        List<Person> go = new ArrayList<>();
        for (Person p : people) {
            if ((set & 1 << p.number) != 0) go.add(p);
        }
        if (go.size() != gates.get(gs / 10)) return NOT;
        for (Person p : go) {
            if (p.within != (gs % 10 == 0) || !lets(p.number, gs / 10, gs % 10, now)) return NOT;
        }
        for (Person p : go) {
            p.within = gs % 10 == 1;
            p.gone = true;
        }
        return inside();
    }

    int tick(int n) {
        if (n < 1 || n > 60) return BAD;
        if (now + n > 60) return STATE;
        for (int i = 0; i < n; i++, now++) {
            for (Person p : people) {
                if (p.waits(now, p.within, p.gone)) p.paid += p.cost;
            }
        }
        return now;
    }

    private Set<Integer> sums() {
        Set<Integer> sums = new HashSet<>(Set.of(0));
        for (int i = 1; i <= 60; i++) {
            for (int number : gates) {
                if (sums.contains(i - number)) sums.add(i);
            }
        }
        return sums;
    }

    private boolean waitsFor(Person p, int where, int side, int t) {
        return side == where && (side == 0 ? p.leaves <= t : p.returns <= t);
    }

    private boolean onePassing(Thought day, int way, int t, int g, int side) {
        List<Person> ready = new ArrayList<>();
        for (Person p : people) {
            if (waitsFor(p, day.where[p.number], side, t) && lets(p.number, g, side, t)) ready.add(p);
        }
        int out = 0;
        for (int where : day.where) out += where == 1 ? 1 : 0;
        if (ready.size() < gates.get(g)) return false;
        if (way == 2 && side == 0 && !sums().contains(out + gates.get(g))) return false;
        ready.sort(Comparator.comparingInt(p -> way == 1 ? -p.cost : side == 0 ? p.leaves : p.returns));
        for (Person p : ready.subList(0, gates.get(g))) {
            day.where[p.number]++;
            (side == 0 ? day.outAt : day.inAt)[p.number] = t;
        }
        day.passings++;
        return true;
    }

    private Thought think(int way) {
        Thought day = new Thought();
        day.where = new int[people.size()];
        day.outAt = new int[people.size()];
        day.inAt = new int[people.size()];
        java.util.Arrays.fill(day.outAt, NOT);
        java.util.Arrays.fill(day.inAt, NOT);
        for (int t = 0; t < 60; t++) {
            for (int g = 0; g < gates.size(); g++) {
                for (int side = 0; side < 2; side++) {
                    boolean more = true;
                    while (more) more = onePassing(day, way, t, g, side);
                }
            }
            day.cost += waitingCost(day.where, t);
        }
        return day;
    }

    private int waitingCost(int[] where, int t) {
        int cost = 0;
        for (Person p : people) {
            for (int side = 0; side < 2; side++) {
                if (waitsFor(p, where[p.number], side, t)) cost += p.cost;
            }
        }
        return cost;
    }

    int day(int way, int person, int what) {
        if (way < 0 || way > 2 || !isPerson(person) || what < 0 || what > 1) return BAD;
        Thought day = think(way);
        return (what == 0 ? day.outAt : day.inAt)[person];
    }

    int sum(int way, int what) {
        if (way < 0 || way > 2 || what < 0 || what > 2) return BAD;
        Thought day = think(way);
        if (what == 0) return day.cost;
        if (what == 1) return day.passings;
        int out = 0;
        for (int where : day.where) out += where == 1 ? 1 : 0;
        return out;
    }

    /** All states that any PASSINGS of one way lead to. */
    private Set<List<Integer>> passed(Set<List<Integer>> from, int side, int t) {
        Set<List<Integer>> all = new HashSet<>(from);
        Deque<List<Integer>> open = new ArrayDeque<>(from);
        while (!open.isEmpty()) {
            List<Integer> where = open.pop();
            for (int set = 1; set < 1 << people.size(); set++) {
                if (Integer.bitCount(set) != gates.get(0)) continue;
                List<Integer> next = new ArrayList<>(where);
                boolean can = true;
                for (Person p : people) {
                    if ((set & 1 << p.number) == 0) continue;
                    can &= waitsFor(p, where.get(p.number), side, t) && lets(p.number, 0, side, t);
                    next.set(p.number, where.get(p.number) + 1);
                }
                if (can && all.add(next)) open.add(next);
            }
        }
        return all;
    }

    int best() {
        if (people.size() > 5 || gates.isEmpty()) return STATE;
        Map<List<Integer>, Integer> sums = new HashMap<>();
        sums.put(new ArrayList<>(java.util.Collections.nCopies(people.size(), 0)), 0);
        for (int t = 0; t < 60; t++) {
            Map<List<Integer>, Integer> next = new HashMap<>();
            for (Map.Entry<List<Integer>, Integer> e : sums.entrySet()) {
                for (List<Integer> where : passed(passed(Set.of(e.getKey()), 0, t), 1, t)) {
                    int[] places = where.stream().mapToInt(i -> i).toArray();
                    next.merge(where, e.getValue() + waitingCost(places, t), Math::min);
                }
            }
            sums = next;
        }
        return java.util.Collections.min(sums.values());
    }

    private boolean isWn(int wn) {
        return wn >= 0 && wn % 100 <= 40 && wn / 100 <= wn % 100;
    }

    /** The least weight from a count to each one, a PASSING and a trip having their weights. */
    private int[] weights(int wn, int passing, int trip, int aboard) {
        int n = wn % 100;
        int[] least = new int[n + 1];
        java.util.Arrays.fill(least, 1000000);
        least[wn / 100] = 0;
        for (int round = 0; round <= n + 1; round++) {
            for (int w = 0; w <= n; w++) {
                for (int to = 0; to <= n; to++) {
                    int moved = Math.abs(to - w);
                    if (gates.contains(moved)) least[to] = Math.min(least[to], least[w] + passing);
                    if (moved >= 1 && moved <= aboard) least[to] = Math.min(least[to], least[w] + trip);
                }
            }
        }
        return least;
    }

    long reach(int wn) {
        if (!isWn(wn)) return BAD;
        long bits = 0;
        int[] least = weights(wn, 1, 0, 0);
        for (int i = 0; i < least.length; i++) {
            if (least[i] < 1000000) bits |= 1L << i;
        }
        return bits;
    }

    int steps(int wn, int to) {
        if (!isWn(wn) || to < 0 || to > wn % 100) return BAD;
        int least = weights(wn, 1, 0, 0)[to];
        return least < 1000000 ? least : NOT;
    }

    int boat(int wn, int bt) {
        if (!isWn(wn) || bt < 0 || bt / 100 < 1 || bt / 100 > 9 || bt % 100 > wn % 100) return BAD;
        int least = weights(wn, 0, 1, bt / 100)[bt % 100];
        return least < 1000000 ? least : NOT;
    }

    int escort(int gn, int what) {
        if (gn < 0 || !isGate(gn / 10) || what < 0 || what > 1) return BAD;
        for (int walkers = 0; walkers <= 9; walkers++) {
            int passings = escorted(gates.get(gn / 10), gn % 10, walkers);
            if (passings >= 0) return what == 0 ? walkers : passings;
        }
        return NOT;
    }

    private int escorted(int number, int n, int walkers) {
        Map<List<Integer>, Integer> far = new HashMap<>();
        Deque<List<Integer>> open = new ArrayDeque<>();
        far.put(List.of(n, walkers), 0);
        open.add(List.of(n, walkers));
        while (!open.isEmpty()) {
            List<Integer> at = open.pollFirst();
            if (at.equals(List.of(0, walkers))) return far.get(at);
            for (int guests = -number; guests <= number; guests++) {
                int with = number - Math.abs(guests);
                for (int sign : guests > 0 ? new int[] {1} : guests < 0 ? new int[] {-1} : new int[] {1, -1}) {
                    List<Integer> next = List.of(at.get(0) - guests, at.get(1) - sign * with);
                    if (next.get(0) < 0 || next.get(0) > n || next.get(1) < 0 || next.get(1) > walkers) continue;
                    if (far.putIfAbsent(next, far.get(at) + 1) == null) open.add(next);
                }
            }
        }
        return -1;
    }

    int soon(int n) {
        if (n < 0 || n > 60) return BAD;
        int least = 1000;
        int[] numbers = {1, 1, 1};
        for (int g = 0; g < gates.size(); g++) numbers[g] = gates.get(g);
        for (int a = 0; a <= (gates.size() > 0 ? 60 : 0); a++) {
            for (int b = 0; b <= (gates.size() > 1 ? 60 : 0); b++) {
                for (int c = 0; c <= (gates.size() > 2 ? 60 : 0); c++) {
                    if (a * numbers[0] + b * numbers[1] + c * numbers[2] == n) {
                        least = Math.min(least, Math.max(a, Math.max(b, c)));
                    }
                }
            }
        }
        return least <= 60 ? least : NOT;
    }

    /** Each run of comings and not comings by itself. */
    long waits(int gt, int y, int part) {
        if (gt < 0 || !isGate(gt / 100) || gt % 100 > 59 || y < 0 || y > 8 || part < 0 || part > 1) {
            return Long.MIN_VALUE;
        }
        BigInteger above = BigInteger.ZERO;
        for (int runs = 0; runs < 1 << y; runs++) {
            int n = 0;
            int waited = 0;
            BigInteger weight = BigInteger.ONE;
            for (int i = 0; i < y; i++) {
                boolean there = n >= gates.get(gt / 100);
                int chance = there ? 6 : twelfths(gt / 100, n, gt % 100 + i);
                boolean comes = (runs >> i & 1) != 0;
                weight = weight.multiply(BigInteger.valueOf(comes ? chance : 12 - chance));
                if (!there) {
                    waited++;
                    n += comes ? 1 : 0;
                }
            }
            above = above.add(weight.multiply(BigInteger.valueOf(waited)));
        }
        BigInteger below = BigInteger.valueOf(12).pow(y);
        BigInteger common = above.gcd(below);
        return (part == 0 ? above : below).divide(common).longValueExact();
    }

    int drawn(int seed, int k, int gate) {
        if (k < 1 || k > 30 || !isGate(gate)) return BAD;
        long z = seed;
        int went = 0;
        for (int i = 0; i < k; i++) {
            int n = 0;
            for (int t = 0; t < 60; t++) {
                z = (z * 1103515245L + 12345L) & 0xFFFFFFFFL;
                if ((z / 256) % 12 < twelfths(gate, n, t)) n++;
                if (n == gates.get(gate)) {
                    went += n;
                    n = 0;
                }
            }
        }
        return went;
    }

    private int refusedBook(int shelf) {
        if (shelves[shelf] == null) return -11;
        return shelves[shelf] instanceof byte[] ? 0 : -12;
    }

    /** First the two that cannot be (NOT: none), then how many are within. */
    private int[] judged(byte[] row, int n) {
        int w = n;
        for (int two = 0; 2 * two < row.length; two++) {
            if (2 * two + 1 == row.length || !isGate(row[2 * two])) return new int[] {two, w};
            int number = gates.get(row[2 * two]);
            int went = row[2 * two + 1];
            boolean can = went == number ? w >= number : went == -number && n - w >= number;
            if (!can) return new int[] {two, w};
            w -= went;
        }
        return new int[] {NOT, w};
    }

    int judge(int shelf, int n) {
        if (shelf < 0 || shelf > 5 || n < 0 || n > 40) return BAD;
        if (refusedBook(shelf) != 0) return refusedBook(shelf);
        return judged((byte[]) shelves[shelf], n)[0];
    }

    int within(int shelf, int n) {
        if (shelf < 0 || shelf > 5 || n < 0 || n > 40) return BAD;
        if (refusedBook(shelf) != 0) return refusedBook(shelf);
        int[] judged = judged((byte[]) shelves[shelf], n);
        return judged[0] == NOT ? judged[1] : STATE;
    }

    int turned(int shelf, int wn, int what) {
        if (shelf < 0 || shelf > 5 || !isWn(wn) || what < 0 || what > 1) return BAD;
        if (refusedBook(shelf) != 0) return refusedBook(shelf);
        List<Integer> twos = new ArrayList<>();
        byte[] row = (byte[]) shelves[shelf];
        for (int two = 0; 2 * two + 1 < row.length; two++) {
            byte[] other = row.clone();
            other[2 * two + 1] = (byte) -other[2 * two + 1];
            int[] judged = judged(other, wn % 100);
            if (judged[0] == NOT && judged[1] == wn / 100) twos.add(two);
        }
        if (what == 0) return twos.size();
        return twos.isEmpty() ? NOT : twos.get(0);
    }

    int image() {
        List<int[]> all = new ArrayList<>();
        for (Person p : people) all.add(new int[] {p.within ? 1 : 0, p.gone ? 1 : 0, p.paid});
        image = new Snapshot(now, all);
        return now;
    }

    int back() {
        if (image == null) return STATE;
        now = image.now();
        for (Person p : people) {
            boolean old = p.number < image.people().size();
            int[] was = old ? image.people().get(p.number) : new int[] {1, 0, 0};
            p.within = was[0] == 1;
            p.gone = was[1] == 1;
            p.paid = was[2];
        }
        return now;
    }

    int undo() {
        if (done.isEmpty()) return STATE;
        Change change = done.remove(done.size() - 1);
        set(change.number(), change.what(), change.was());
        undone.push(change);
        return done.size();
    }

    int redo() {
        if (undone.isEmpty()) return STATE;
        Change change = undone.pop();
        set(change.number(), change.what(), change.v());
        done.add(change);
        return undone.size();
    }

    int body(int kind) {
        if (kind < 0 || kind > 7) return BAD;
        if (bodies.size() == 50) return FULL;
        bodies.add(ActsModel.make(kind, bodies.size()));
        return bodies.size() - 1;
    }

    int act(int body, int act, int x) {
        trace.clear();
        if (body < 0 || body >= bodies.size() || act < 0 || act > 3) return 0;
        ActsModel.TRACE.clear();
        int answer = ActsModel.act(bodies.get(body), act, x);
        trace.addAll(ActsModel.TRACE);
        return answer;
    }

    int trace(int i) {
        return i >= 0 && i < Math.min(24, trace.size()) ? trace.get(i) : BAD;
    }

    int keep(int shelf, int body) {
        if (shelf < 0 || shelf > 5 || body < -1 || body >= bodies.size()) return BAD;
        shelves[shelf] = body == -1 ? null : bodies.get(body);
        return 1;
    }

    int row(int shelf, int sort, int n) {
        if (shelf < 0 || shelf > 5 || sort < 0 || sort > 4 || n > 60) return BAD;
        try {
            shelves[shelf] = Array.newInstance(SORTS[sort], n);
        } catch (NegativeArraySizeException below) {
            return -14;
        }
        return 1;
    }

    private static void store(Object row, int i, long v) {
        if (row instanceof byte[] b) b[i] = (byte) v;
        else if (row instanceof short[] s) s[i] = (short) v;
        else if (row instanceof int[] n) n[i] = (int) v;
        else if (row instanceof long[] l) l[i] = v;
        else ((boolean[]) row)[i] = v != 0;
    }

    int put(int shelf, int i, long v) {
        if (shelf < 0 || shelf > 5) return BAD;
        try {
            shelves[shelf].getClass();
            store(shelves[shelf], i, v);
        } catch (NullPointerException nothing) {
            return -11;
        } catch (ClassCastException other) {
            return -12;
        } catch (ArrayIndexOutOfBoundsException place) {
            return -13;
        }
        return 1;
    }

    long element(int shelf, int i) {
        if (shelf < 0 || shelf > 5 || shelves[shelf] == null) return Long.MIN_VALUE;
        if (!shelves[shelf].getClass().isArray() || i < 0 || i >= Array.getLength(shelves[shelf])) {
            return Long.MIN_VALUE;
        }
        if (shelves[shelf] instanceof boolean[] b) return b[i] ? 1 : 0;
        return Array.getLong(shelves[shelf], i);
    }

    int shift(int shelf, int i, int other, int j, int n) {
        if (shelf < 0 || shelf > 5 || other < 0 || other > 5) return BAD;
        try {
            System.arraycopy(shelves[shelf], i, shelves[other], j, n);
        } catch (NullPointerException nothing) {
            return -11;
        } catch (ArrayStoreException unlike) {
            return -12;
        } catch (IndexOutOfBoundsException place) {
            return -13;
        }
        return n;
    }

    int taken(int shelf, int k) {
        if (shelf < 0 || shelf > 5 || k < 0 || k > 7) return BAD;
        if (shelves[shelf] == null) return -11;
        if (!ActsModel.kind(k).isInstance(shelves[shelf])) return -12;
        for (int kind = 0; kind < 8; kind++) {
            if (ActsModel.kind(kind) == shelves[shelf].getClass()) return kind;
        }
        return -12;
    }

    int count(int what) {
        return switch (what) {
            case 0 -> people.size();
            case 1 -> gates.size();
            case 2 -> now;
            case 3 -> inside();
            case 4 -> tape.length();
            case 5 -> done.size();
            case 6 -> bodies.size();
            case 7 -> trace.size();
            default -> BAD;
        };
    }
}
