import java.util.Random;

/** All promises: long runs of calls, the same every time, each answered by Districtmeter as by the Model. */
public final class ModelTest {
    private static final int RUNS = 3000;
    private static final int CALLS = 512;
    private static final int METHODS = 23;
    private static final int[] ODD = {Integer.MIN_VALUE, -33, -32, -2, 16, 17, 20, 21, 31, 32, 33, 64, 101, 1001, 10001, Integer.MAX_VALUE};

    private static final Check check = new Check("ModelTest");

    private final Random random;
    private final Districtmeter x = new Districtmeter();
    private final Model y = new Model();
    /** Small amounts make for many equal quotients and much rounding. */
    private final int mostAmount;
    /** How many of the calls to change the net come early, so that nets are large or small. */
    private final int growth;

    private ModelTest(int seed) {
        random = new Random(seed);
        mostAmount = seed % 3 == 0 ? 10000 : seed % 3 == 1 ? 300 : 6;
        growth = seed % 5;
    }

    public static void main(String[] args) {
        for (int seed = 1; seed <= RUNS; seed++) {
            ModelTest run = new ModelTest(seed);
            for (int call = 1; call <= CALLS; call++) {
                run.callBoth("run " + seed + " call " + call + ": ");
            }
        }
        check.end();
    }

    private int some(int below) {
        return random.nextInt(below);
    }

    /** Mostly what a call may be given, now and then the edges of it, or far outside. */
    private int number(int least, int most) {
        int kind = some(40);
        if (kind == 0) {
            return least - 1;
        }
        if (kind == 1) {
            return most + 1;
        }
        if (kind == 2) {
            return ODD[some(ODD.length)];
        }
        if (kind == 3) {
            return most;
        }
        if (kind == 4) {
            return least;
        }
        return least + some(most - least + 1);
    }

    private int node() {
        return some(30) == 0 ? number(0, 15) : number(0, 10);
    }

    private int pipe() {
        return number(1, 12);
    }

    private int area() {
        return number(0, 4);
    }

    private int amount(int least) {
        return some(25) == 0 ? number(least, 10000) : number(least, mostAmount);
    }

    private int hours() {
        return some(3) == 0 ? number(1, 100) : number(1, 6);
    }

    private int method() {
        if (some(10) < growth) {
            return some(3) == 0 ? 19 : 1;
        }
        return 1 + some(METHODS);
    }

    private void callBoth(String where) {
        int a = 0;
        int b = 0;
        int c = 0;
        int method = method();
        switch (method) {
            case 1: a = some(2) == 0 ? node() : number(0, 5); b = amount(0); break;
            case 2: a = node(); b = amount(0); break;
            case 3: a = pipe(); b = some(3) == 0 ? -1 : number(-1, 100); break;
            case 4: case 8: a = pipe(); break;
            case 5: a = some(2) == 0 ? pipe() : number(5, 12); break;
            case 6: case 7: case 10: a = node(); break;
            case 11: a = area(); b = node(); break;
            case 12: case 13: case 14: case 15: case 16: a = area(); break;
            case 17: case 18: a = area(); b = number(0, 6); break;
            case 19: a = node(); b = amount(1); c = hours(); break;
            case 20: case 21: case 22: a = some(4) == 0 ? number(0, 19) : number(0, 8); break;
            case 23: a = some(2) == 0 ? number(0, 1000) : number(0, 40); break;
            default: break;
        }
        int p = a;
        int q = b;
        int r = c;
        String want = Check.answer(() -> ofModel(method, p, q, r));
        check.due(where + "method " + method + " (" + a + ", " + b + ", " + c + ")", want, () -> ofClass(method, p, q, r));
    }

    private Object ofClass(int method, int a, int b, int c) {
        switch (method) {
            case 1: return x.addNode(a, b);
            case 2: return x.setBackground(a, b);
            case 3: return x.setPressure(a, b);
            case 4: return x.addMeter(a);
            case 5: return x.toggleValve(a);
            case 6: return x.isSupplied(a);
            case 7: return x.takes(a);
            case 8: return x.flow(a);
            case 9: return x.allFlow();
            case 10: return x.addArea(a);
            case 11: return x.addExport(a, b);
            case 12: return x.nodes(a);
            case 13: return x.areaFlow(a);
            case 14: return x.areaTakes(a);
            case 15: return x.loss(a);
            case 16: return x.steps(a);
            case 17: return x.stepPipe(a, b);
            case 18: return x.drop(a, b);
            case 19: return x.burst(a, b, c);
            case 20: return x.repair(a);
            case 21: return x.cost(a);
            case 22: return x.ranked(a);
            default: return x.plan(a);
        }
    }

    private Object ofModel(int method, int a, int b, int c) {
        switch (method) {
            case 1: return y.addNode(a, b);
            case 2: return y.setBackground(a, b);
            case 3: return y.setPressure(a, b);
            case 4: return y.addMeter(a);
            case 5: return y.toggleValve(a);
            case 6: return y.isSupplied(a);
            case 7: return y.takes(a);
            case 8: return y.flow(a);
            case 9: return y.allFlow();
            case 10: return y.addArea(a);
            case 11: return y.addExport(a, b);
            case 12: return y.nodes(a);
            case 13: return y.areaFlow(a);
            case 14: return y.areaTakes(a);
            case 15: return y.loss(a);
            case 16: return y.steps(a);
            case 17: return y.stepPipe(a, b);
            case 18: return y.drop(a, b);
            case 19: return y.burst(a, b, c);
            case 20: return y.repair(a);
            case 21: return y.cost(a);
            case 22: return y.ranked(a);
            default: return y.plan(a);
        }
    }
}
