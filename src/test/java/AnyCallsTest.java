import java.util.Random;

/** Runs of any calls with any arguments, held against the Model (all promises, 1 to 39). */
public final class AnyCallsTest {
    private static final int RUNS = 1500, CALLS = 512;
    private static final int[] ODD = {-1, Integer.MIN_VALUE, Integer.MAX_VALUE, 60, 61, 100, 41, 4141, -100, 7, 13, 255, 256};
    private static final String SIGNS = "tgpcsn0123456789|&<=>+-*/%!()?;";

    private final Random random;
    private final Checks checks;
    private final int run;
    private final ThreeThrough x = new ThreeThrough();
    private final Model m = new Model();

    private AnyCallsTest(int run, Checks checks) {
        this.run = run;
        this.checks = checks;
        this.random = new Random(run);
    }

    public static void main(String[] args) {
        Checks checks = new Checks("AnyCallsTest");
        for (int run = 0; run < RUNS; run++) {
            new AnyCallsTest(run, checks).go();
        }
        checks.end();
    }

    private void go() {
        int budget = CALLS;
        while (budget > 0) {
            budget -= oneStep(budget);
        }
    }

    private int upTo(int most) {
        return random.nextInt(24) == 0 ? ODD[random.nextInt(ODD.length)] : random.nextInt(most + 1);
    }

    private int wn() {
        int n = random.nextInt(random.nextBoolean() ? 42 : 12);
        return random.nextInt(24) == 0 ? upTo(5000) : 100 * random.nextInt(n + 1) + n;
    }

    private int lr() {
        int leaves = random.nextInt(random.nextBoolean() ? 60 : 8);
        return random.nextInt(24) == 0 ? upTo(7000) : 100 * leaves + leaves + 1 + random.nextInt(60 - leaves);
    }

    private int gs() {
        return 10 * upTo(2) + upTo(1);
    }

    private void same(String call, long got, long want) {
        checks.due("run " + run + " " + call, got, want);
    }

    private int oneStep(int budget) {
        int kind = random.nextInt(100);
        if (kind < 14) {
            come();
        } else if (kind < 20) {
            return text(budget);
        } else if (kind < 40) {
            inDeed();
        } else if (kind < 52) {
            byCounts();
        } else if (kind < 60) {
            byChances();
        } else if (kind < 64) {
            inThought();
        } else if (kind < 74) {
            books();
        } else if (kind < 84) {
            acts();
        } else {
            rows();
        }
        return 1;
    }

    private void come() {
        int a = upTo(6);
        int lr = lr();
        int c = 1 + upTo(8);
        switch (random.nextInt(5)) {
            case 0 -> same("gate " + a, x.gate(a), m.gate(a));
            case 1 -> {
                if (random.nextInt(3) == 0) same("person " + lr + " " + c, x.person(lr, c), m.person(lr, c));
            }
            case 2 -> {
                int shelf = upTo(5);
                int i = upTo(9);
                same("people " + shelf + " " + i + " " + a, x.people(shelf, i, a), m.people(shelf, i, a));
            }
            case 3 -> {
                int what = upTo(2);
                int v = what == 1 ? upTo(60) : upTo(9);
                int number = upTo(what == 2 ? 2 : 11);
                same("mend " + number + " " + what + " " + v, x.mend(number, what, v), m.mend(number, what, v));
            }
            default -> {
                int what = upTo(10);
                int number = upTo(what == 10 ? 2 : 11);
                same("of " + number + " " + what, x.of(number, what), m.of(number, what));
            }
        }
    }

    private String expression(int deep) {
        int form = random.nextInt(deep > 3 ? 2 : 8);
        if (form == 0) return "" + random.nextInt(random.nextBoolean() ? 13 : 10000);
        if (form == 1) return "" + "tgpcsn".charAt(random.nextInt(6));
        if (form == 2) return "!" + expression(deep + 2);
        if (form == 3) return "-" + expression(deep + 2);
        if (form == 4) return "(" + expression(deep + 1) + ")";
        return expression(deep + 1) + "|&<=>+-*/%".charAt(random.nextInt(10)) + expression(deep + 1);
    }

    private String someText() {
        StringBuilder text = new StringBuilder();
        int lines = 1 + random.nextInt(3);
        for (int i = 0; i < lines; i++) {
            text.append(i > 0 ? ";" : "").append(expression(0));
            if (random.nextInt(3) == 0) text.append("?").append(expression(1));
        }
        if (random.nextInt(4) == 0 && text.length() > 0) {
            int at = random.nextInt(text.length());
            if (random.nextBoolean()) text.setCharAt(at, SIGNS.charAt(random.nextInt(SIGNS.length())));
            else text.insert(at, SIGNS.charAt(random.nextInt(SIGNS.length())));
        }
        return text.toString();
    }

    private int text(int budget) {
        String text = someText();
        int calls = 1;
        for (int i = 0; i < text.length() && i < 60 && calls < budget; i++, calls++) {
            same("feed", x.feed(text.charAt(i)), m.feed(text.charAt(i)));
        }
        if (random.nextInt(20) == 0) {
            int odd = upTo(255);
            same("feed " + odd, x.feed(odd), m.feed(odd));
            return calls;
        }
        int which = random.nextInt(15) == 0 ? upTo(2) : random.nextInt(2);
        same("law " + which + " behind " + text, x.law(which), m.law(which));
        return calls;
    }

    private void inDeed() {
        int gs = gs();
        switch (random.nextInt(7)) {
            case 0 -> {
                int p = upTo(11);
                int t = upTo(59);
                same("may " + p + " " + gs + " " + t, x.may(p, gs, t), m.may(p, gs, t));
            }
            case 1, 2, 3 -> {
                int set = passers();
                same("pass " + gs + " " + set, x.pass(gs, set), m.pass(gs, set));
            }
            case 4 -> {
                int n = random.nextInt(5) == 0 ? upTo(60) : 1 + random.nextInt(3);
                same("tick " + n, x.tick(n), m.tick(n));
            }
            case 5 -> {
                if (random.nextInt(3) == 0) same("image", x.image(), m.image());
                else same("back", x.back(), m.back());
            }
            default -> {
                if (random.nextBoolean()) same("undo", x.undo(), m.undo());
                else same("redo", x.redo(), m.redo());
            }
        }
    }

    private int passers() {
        int all = m.count(0);
        int set = 0;
        int want = 1 + random.nextInt(6);
        for (int i = 0; i < 30 && all > 0 && Integer.bitCount(set) < want; i++) {
            set |= 1 << random.nextInt(all);
        }
        return random.nextInt(24) == 0 ? upTo(5000) : set;
    }

    private void byCounts() {
        int wn = wn();
        int to = upTo(random.nextBoolean() ? 12 : 40);
        switch (random.nextInt(5)) {
            case 0 -> same("reach " + wn, x.reach(wn), m.reach(wn));
            case 1 -> same("steps " + wn + " " + to, x.steps(wn, to), m.steps(wn, to));
            case 2 -> {
                int bt = 100 * upTo(9) + to;
                same("boat " + wn + " " + bt, x.boat(wn, bt), m.boat(wn, bt));
            }
            case 3 -> {
                int gn = 10 * upTo(2) + upTo(9);
                int what = upTo(1);
                same("escort " + gn + " " + what, x.escort(gn, what), m.escort(gn, what));
            }
            default -> {
                int n = upTo(60);
                same("soon " + n, x.soon(n), m.soon(n));
            }
        }
    }

    private void byChances() {
        int gate = upTo(2);
        switch (random.nextInt(3)) {
            case 0 -> {
                int gn = 10 * gate + upTo(9);
                int t = upTo(59);
                same("comes " + gn + " " + t, x.comes(gn, t), m.comes(gn, t));
            }
            case 1 -> {
                int gt = 100 * gate + upTo(59);
                int y = upTo(8);
                int part = upTo(1);
                same("waits " + gt + " " + y + " " + part, x.waits(gt, y, part), m.waits(gt, y, part));
            }
            default -> {
                int seed = random.nextInt();
                int k = upTo(random.nextInt(4) == 0 ? 30 : 3);
                same("drawn " + seed + " " + k + " " + gate, x.drawn(seed, k, gate), m.drawn(seed, k, gate));
            }
        }
    }

    private void inThought() {
        int way = upTo(2);
        int p = upTo(11);
        int what = upTo(2);
        switch (random.nextInt(5)) {
            case 0, 1 -> same("day " + way + " " + p + " " + what, x.day(way, p, what), m.day(way, p, what));
            case 2, 3 -> same("sum " + way + " " + what, x.sum(way, what), m.sum(way, what));
            default -> same("best", x.best(), m.best());
        }
    }

    private void books() {
        int shelf = random.nextInt(3) == 0 ? upTo(5) : 0;
        int n = random.nextInt(41);
        switch (random.nextInt(6)) {
            case 0 -> same("judge", x.judge(shelf, n), m.judge(shelf, n));
            case 1 -> same("within", x.within(shelf, n), m.within(shelf, n));
            case 2, 3 -> {
                int wn = wn();
                int what = upTo(1);
                same("turned " + wn + " " + what, x.turned(shelf, wn, what), m.turned(shelf, wn, what));
            }
            case 4 -> {
                int size = upTo(12);
                same("row " + size, x.row(0, 0, size), m.row(0, 0, size));
            }
            default -> {
                int i = random.nextInt(6);
                int gate = upTo(2);
                int went = (random.nextInt(3) == 0 ? -1 : 1) * Math.max(1, m.of(gate, 10));
                same("put gate", x.put(0, 2 * i, gate), m.put(0, 2 * i, gate));
                same("put went", x.put(0, 2 * i + 1, went), m.put(0, 2 * i + 1, went));
            }
        }
    }

    private void acts() {
        int a = upTo(12);
        int b = upTo(7);
        int shelf = upTo(5);
        int v = random.nextBoolean() ? random.nextInt(20) : random.nextInt();
        switch (random.nextInt(6)) {
            case 0 -> same("body " + b, x.body(b), m.body(b));
            case 1 -> {
                int act = upTo(3);
                same("act " + a + " " + act + " " + v, x.act(a, act, v), m.act(a, act, v));
            }
            case 2 -> same("trace " + b, x.trace(b), m.trace(b));
            case 3 -> {
                int kept = random.nextInt(3) == 0 ? -1 : a;
                same("keep " + shelf + " " + kept, x.keep(shelf, kept), m.keep(shelf, kept));
            }
            case 4 -> same("taken " + shelf + " " + b, x.taken(shelf, b), m.taken(shelf, b));
            default -> same("count " + b, x.count(b), m.count(b));
        }
    }

    private void rows() {
        int shelf = upTo(5);
        int i = upTo(12);
        int j = upTo(12);
        switch (random.nextInt(6)) {
            case 0 -> {
                int sort = random.nextInt(3) == 0 ? upTo(4) : random.nextInt(2);
                int n = random.nextInt(5) == 0 ? upTo(60) : random.nextInt(14);
                same("row " + shelf + " " + sort + " " + n, x.row(shelf, sort, n), m.row(shelf, sort, n));
            }
            case 1, 2 -> {
                long v = random.nextBoolean() ? random.nextInt(61) : random.nextLong();
                same("put " + shelf + " " + i + " " + v, x.put(shelf, i, v), m.put(shelf, i, v));
            }
            case 3 -> same("element " + shelf + " " + i, x.element(shelf, i), m.element(shelf, i));
            default -> {
                int other = random.nextInt(3) == 0 ? shelf : upTo(5);
                int n = upTo(8);
                same("shift " + shelf + " " + i + " " + other + " " + j + " " + n,
                    x.shift(shelf, i, other, j, n), m.shift(shelf, i, other, j, n));
            }
        }
    }
}
