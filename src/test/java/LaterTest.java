/** Whatever is called, and however often: nothing is thrown but what the document names. */
public final class LaterTest {
    private static final int[] FAR = {Integer.MIN_VALUE, Integer.MIN_VALUE + 1, -1, 0, 1, Integer.MAX_VALUE - 1,
        Integer.MAX_VALUE};
    private static long seed = 5;

    public static void main(String[] args) {
        Check.under("What it is");
        Check.sentence("An object is used for at most 512 calls after it has been made; what later calls answer is"
                + " free.", LaterTest::longRuns);
        Check.end();
    }

    private static void longRuns() {
        for (int round = 0; round < 40; round++) {
            Saltwedge x = new Saltwedge();
            int wild = 2 + round % 9;
            for (int i = 0; i < 3000; i++) {
                call(x, below(23), wild);
            }
        }
    }

    private static int below(int bound) {
        seed = seed * 6364136223846793005L + 1442695040888963407L;
        return (int) ((seed >>> 33) % bound);
    }

    private static int some(int most, int wild) {
        return below(wild) == 0 ? FAR[below(FAR.length)] : below(most + 2) - 1;
    }

    private static void call(Saltwedge x, int method, int wild) {
        String thrown = "";
        try {
            if (method < 12) {
                tell(x, method, wild);
            } else {
                ask(x, method, wild);
            }
        } catch (RuntimeException e) {
            thrown = e.getClass().getSimpleName();
        }
        boolean named = thrown.isEmpty() || thrown.equals("IllegalArgumentException")
                || thrown.equals("IllegalStateException") || thrown.equals("IndexOutOfBoundsException");
        Check.dueTrue("call of the method " + method + " throws " + thrown, named);
    }

    private static void tell(Saltwedge x, int method, int wild) {
        switch (method) {
            case 0: x.turn(some(60, wild), some(30, wild), some(50, wild), some(59, wild)); break;
            case 1: x.mean(some(100, wild)); break;
            case 2: x.surge(some(2000, wild), some(2000, wild), some(100, wild)); break;
            case 3: x.river(some(500, wild), some(500, wild)); break;
            case 4: x.barrier(some(200, wild), some(12, wild)); break;
            case 5: x.section(some(100, wild), some(10000, wild), some(10000, wild), some(10000, wild)); break;
            case 6: x.intake(some(7, wild), some(500, wild), some(30, wild), some(9000, wild), some(500, wild)); break;
            case 7: x.oysters(some(7, wild), some(30, wild), some(24, wild)); break;
            case 8: x.permit(some(7, wild), some(10000, wild)); break;
            case 9: x.whyNot(some(7, wild), some(10000, wild)); break;
            case 10: x.dredge(some(7, wild), some(9000, wild), some(7, wild)); break;
            default:
                if (below(8) == 0) {
                    x.pass(some(48, wild));
                }
                break;
        }
    }

    private static void ask(Saltwedge x, int method, int wild) {
        switch (method) {
            case 12: x.now(); break;
            case 13: x.sea(some(2000, wild)); break;
            case 14: x.ofSection(some(7, wild), some(9, wild)); break;
            case 15:
                if (below(4) == 0) {
                    x.ofSectionAnew(some(7, wild), some(9, wild));
                }
                break;
            case 16: x.ofIntake(some(5, wild), some(4, wild)); break;
            case 17: x.isClosed(some(5, wild)); break;
            case 18: x.closures(); break;
            case 19: x.closure(some(20, wild), some(2, wild)); break;
            case 20: x.intrusion(some(30, wild)); break;
            case 21: x.window(some(200, wild), some(24, wild)); break;
            default: x.sum(some(9, wild)); break;
        }
    }
}
