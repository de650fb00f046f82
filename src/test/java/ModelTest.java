import java.util.Arrays;

/** Long runs of calls by made-up numbers, each answer compared with the model's. */
public final class ModelTest {
    private static final int RUNS = 1500;
    private static final int CALLS = 512;
    private static final String[] NAMES = {"turn", "mean", "surge", "river", "barrier", "section", "intake", "oysters",
        "whyNot", "permit", "dredge", "pass", "now", "sea", "ofSection", "ofSectionAnew", "ofIntake", "isClosed",
        "closures", "closure", "intrusion", "window", "sum"};

    private final Saltwedge program = new Saltwedge();
    private final Model model = new Model();
    private final StringBuilder told = new StringBuilder();
    private final boolean deep;
    private final boolean calm;
    private long seed;

    private ModelTest(int run) {
        seed = run * 7919L + 17;
        deep = run % 3 == 0;
        calm = run % 4 == 1;
    }

    public static void main(String[] args) {
        int[][] count = new int[NAMES.length][4];
        for (int run = 0; run < RUNS; run++) {
            if (!new ModelTest(run).runs(run, count)) {
                break;
            }
        }
        for (int m = 0; m < NAMES.length; m++) {
            Check.dueTrue(NAMES[m] + " answered something " + Arrays.toString(count[m]), count[m][3] > 0);
        }
        Check.end();
    }

    private boolean runs(int run, int[][] count) {
        int sections = below(10) == 0 ? 0 : 1 + below(8);
        for (int i = 0; i < CALLS; i++) {
            int method = i < sections ? 5 : method();
            int[] a = arguments(method);
            long want = model.call(method, a);
            long got = ask(method, a);
            String call = NAMES[method] + Arrays.toString(a);
            told.append(call).append(" -> ").append(want).append('\n');
            count[method][want <= Model.STATE ? (int) (want - Model.INDEX) : 3]++;
            if (want != got) {
                System.out.println(told);
                Check.same("run " + run + ", call " + i + ", " + call, name(want), name(got));
                return false;
            }
        }
        Check.same("run " + run, "as due", "as due");
        return true;
    }

    private static String name(long answer) {
        return answer == Model.INDEX ? "index" : answer == Model.ARGUMENT ? "argument"
                : answer == Model.STATE ? "state" : String.valueOf(answer);
    }

    private int below(int bound) {
        seed = seed * 6364136223846793005L + 1442695040888963407L;
        return (int) ((seed >>> 33) % bound);
    }

    /** From least to most; seldom one beyond, or one of the ends. */
    private int from(int least, int most) {
        int kind = below(40);
        if (kind == 0) {
            return least - 1;
        }
        if (kind == 1) {
            return most + 1;
        }
        if (kind == 2) {
            return least;
        }
        if (kind == 3) {
            return most;
        }
        if (kind == 4) {
            int[] far = {Integer.MIN_VALUE, Integer.MAX_VALUE, -1, 0, 1};
            return far[below(far.length)];
        }
        return least + below(Math.max(1, most - least + 1));
    }

    private int method() {
        int kind = below(10);
        if (kind < 3) {
            return 11;
        }
        if (kind < 5) {
            return below(11);
        }
        return 12 + below(11);
    }

    private int[] arguments(int method) {
        int sections = model.parts.size();
        int small = deep ? 10000 : 300;
        int period = from(2, 60);
        int start = from(model.now(), model.now() + 20);
        switch (method) {
            case 0: return new int[] {period, from(1, period - 1), from(0, 50), from(0, 59)};
            case 1: return new int[] {from(0, 100)};
            case 2: return new int[] {start, from(start, Math.min(2000, start + 15)), from(-50, 100)};
            case 3: return new int[] {from(0, deep ? 500 : 30), from(0, deep ? 500 : 20)};
            case 4: return new int[] {below(3) == 0 ? -1 : from(20, calm ? 60 : 300), from(0, 12)};
            case 5: return new int[] {from(1, deep ? 100 : 8), from(0, small), from(0, small), from(0, small)};
            case 6: return new int[] {from(0, sections - 1), from(1, 40), from(0, 30), from(1, 200), from(0, 30)};
            case 7: return new int[] {from(0, sections - 1), from(0, 30), from(1, 24)};
            case 8:
            case 9: return new int[] {from(0, sections - 1), from(method == 8 ? 1 : 0, small / 5)};
            case 10: return new int[] {from(0, sections - 1), from(1, small / 10), from(-1, sections - 1)};
            case 11: return new int[] {below(5) == 0 ? from(1, 48) : from(1, 4)};
            case 13: return new int[] {below(3) == 0 ? from(0, 2000) : from(model.now() - 8, model.now() + 20)};
            case 14:
            case 15: return new int[] {from(0, sections - 1), from(0, 9)};
            case 16: return new int[] {from(0, model.intakes.size() - 1), from(0, 4)};
            case 17: return new int[] {from(0, model.oysters.size() - 1)};
            case 19: return new int[] {from(0, (int) model.call(18, new int[0]) - 1), from(0, 2)};
            case 20: return new int[] {from(1, 30)};
            case 21: return new int[] {from(1, 200), from(1, 24)};
            case 22: return new int[] {from(0, 9)};
            default: return new int[0];
        }
    }

    private long ask(int method, int[] a) {
        try {
            return method < 12 ? tell(method, a) : question(method, a);
        } catch (IndexOutOfBoundsException e) {
            return e.getClass() == IndexOutOfBoundsException.class ? Model.INDEX : -999;
        } catch (IllegalArgumentException e) {
            return e.getClass() == IllegalArgumentException.class ? Model.ARGUMENT : -999;
        } catch (IllegalStateException e) {
            return e.getClass() == IllegalStateException.class ? Model.STATE : -999;
        }
    }

    private long tell(int method, int[] a) {
        switch (method) {
            case 0: return program.turn(a[0], a[1], a[2], a[3]);
            case 1: return program.mean(a[0]);
            case 2: return program.surge(a[0], a[1], a[2]);
            case 3: return program.river(a[0], a[1]);
            case 4: return program.barrier(a[0], a[1]);
            case 5: return program.section(a[0], a[1], a[2], a[3]);
            case 6: return program.intake(a[0], a[1], a[2], a[3], a[4]);
            case 7: return program.oysters(a[0], a[1], a[2]);
            case 8: return program.whyNot(a[0], a[1]);
            case 9: return program.permit(a[0], a[1]);
            case 10: return program.dredge(a[0], a[1], a[2]);
            default: return program.pass(a[0]);
        }
    }

    private long question(int method, int[] a) {
        switch (method) {
            case 12: return program.now();
            case 13: return program.sea(a[0]);
            case 14: return program.ofSection(a[0], a[1]);
            case 15: return program.ofSectionAnew(a[0], a[1]);
            case 16: return program.ofIntake(a[0], a[1]);
            case 17: return program.isClosed(a[0]) ? 1 : 0;
            case 18: return program.closures();
            case 19: return program.closure(a[0], a[1]);
            case 20: return program.intrusion(a[0]);
            case 21: return program.window(a[0], a[1]);
            default: return program.sum(a[0]);
        }
    }
}
