import java.util.ArrayList;
import java.util.List;

/** The KINDS as classes of Java's own, so that Java itself finds the bodies of acts. */
final class ActsModel {
    static final List<Integer> TRACE = new ArrayList<>();

    private ActsModel() {
    }

    static Keeper make(int kind, int n) {
        Keeper made = switch (kind) {
            case 0 -> new Keeper();
            case 1 -> new Plain();
            case 2 -> new Look();
            case 3 -> new Walk();
            case 4 -> new Two();
            case 5 -> new Best();
            case 6 -> new Told();
            default -> new Away();
        };
        made.n = n;
        return made;
    }

    static Class<?> kind(int k) {
        return make(k, 0).getClass();
    }

    static int act(Keeper keeper, int act, int x) {
        return switch (act) {
            case 0 -> keeper.opens(x);
            case 1 -> keeper.counts(x);
            case 2 -> keeper.waits(x);
            default -> keeper.tells(x);
        };
    }

    interface Opens {
        int number();

        default int opens(int x) {
            TRACE.add(1);
            return x + number();
        }
    }

    interface Tells {
        int counts(int x);

        int waits(int x);

        default int tells(int x) {
            TRACE.add(2);
            return counts(x) - waits(1);
        }
    }

    static class Keeper implements Opens, Tells {
        int n;

        @Override public int number() {
            return n;
        }

        @Override public int counts(int x) {
            TRACE.add(10);
            return opens(x) * 2;
        }

        @Override public int waits(int x) {
            TRACE.add(11);
            return x ^ n;
        }
    }

    static class Plain extends Keeper {
        @Override public int opens(int x) {
            TRACE.add(20);
            return super.opens(x) + 3;
        }
    }

    static class Look extends Keeper {
        @Override public int counts(int x) {
            TRACE.add(30);
            return -super.counts(x);
        }
    }

    static class Walk extends Look {
        @Override public int waits(int x) {
            TRACE.add(40);
            return super.waits(x) * 3;
        }

        @Override public int counts(int x) {
            TRACE.add(41);
            return super.counts(x + 1);
        }
    }

    static class Two extends Plain {
        @Override public int tells(int x) {
            TRACE.add(50);
            return super.tells(x) ^ 5;
        }
    }

    static class Best extends Walk {
        @Override public int waits(int x) {
            TRACE.add(60);
            return super.waits(x) - opens(2);
        }

        @Override public int tells(int x) {
            TRACE.add(61);
            return super.tells(x) + 1;
        }
    }

    static class Told extends Keeper {
        @Override public int opens(int x) {
            TRACE.add(70);
            return super.opens(x) * 2;
        }
    }

    static class Away extends Told {
        @Override public int counts(int x) {
            TRACE.add(80);
            return super.counts(x) + waits(2);
        }

        @Override public int opens(int x) {
            TRACE.add(81);
            return super.opens(x) - 1;
        }
    }
}
