/** Promises 1 to 10, the net: what its calls answer; NetLimitTest has their limits. */
public final class NetTest {
    private static final Check check = new Check("NetTest");

    public static void main(String[] args) {
        promise1();
        promise2();
        promise3();
        promise4();
        promise4Factors();
        promise5();
        promise6();
        promise7();
        promise8();
        promise9();
        promise10();
        check.end();
    }

    private static void promise1() {
        Desk x = new Desk();
        check.due("1: all flow of a new net", 0, () -> x.allFlow());
        check.due("1: the source is there", true, () -> x.isSupplied(0));
        check.due("1: the source takes nothing", 0, () -> x.takes(0));
        check.due("1: nothing but the source", Check.INDEX, () -> x.isSupplied(1));
        check.due("1: no area", Check.INDEX, () -> x.nodes(0));
        check.due("1: no burst", Check.INDEX, () -> x.cost(0));
        check.due("1: nothing to plan", 0, () -> x.plan(1000));
        Desk y = new Desk();
        y.addNode(0, 5);
        check.due("1: two nets share nothing", 0, () -> x.allFlow());
        check.due("1: two nets share nothing", Check.INDEX, () -> x.takes(1));
    }

    private static void promise2() {
        Desk x = new Desk();
        check.due("2: use 0", 1, () -> x.addNode(0, 0));
        check.due("2: use 10000", 2, () -> x.addNode(1, 10000));
        check.due("2: takes its use", 0, () -> x.takes(1));
        check.due("2: takes its use", 10000, () -> x.takes(2));
        for (int node = 3; node <= 15; node++) {
            int use = node;
            check.due("2: node " + node, node, () -> x.addNode(2, use));
        }
        check.due("2: the 16th node takes its use", 15, () -> x.takes(15));
        check.refused("2: one more than 16", Check.STATE, x, () -> x.addNode(0, 0));
        x.toggleValve(2);
        check.due("2: hangs on the node it was told", false, () -> x.isSupplied(15));
        check.due("2: does not hang on what is below", true, () -> x.isSupplied(1));
    }

    private static void promise3() {
        Desk x = new Desk();
        x.addNode(0, 7);
        check.due("3: amount 10000", 10000, () -> x.setBackground(1, 10000));
        check.due("3: the amount counts", 10007, () -> x.takes(1));
        check.due("3: sets, does not add", 300, () -> x.setBackground(1, 300));
        x.burst(1, 50, 1);
        check.due("3: a burst counts with it", 150, () -> x.setBackground(1, 100));
        x.setPressure(1, 40);
        check.due("3: the pressure counts, rounded down", 126, () -> x.setBackground(1, 123));
        x.toggleValve(1);
        check.due("3: told where nothing is supplied", 109, () -> x.setBackground(1, 100));
        check.due("3: amount 0", 36, () -> x.setBackground(1, 0));
        check.due("3: background of the source", 9, () -> x.setBackground(0, 9));
        x.repair(0);
        check.due("3: a repaired burst counts no more", 73, () -> x.setBackground(1, 100));
    }

    private static void promise4() {
        Desk x = new Desk();
        x.addNode(0, 0);
        x.addNode(1, 0);
        x.addNode(2, 0);
        x.addNode(0, 0);
        check.due("4: -1 where none was set", 50, () -> x.setPressure(1, -1));
        check.due("4: pressure 0", 0, () -> x.setPressure(1, 0));
        check.due("4: pressure 100", 100, () -> x.setPressure(3, 100));
        check.due("4: the last one above counts", 0, () -> x.setPressure(2, -1));
        check.due("4: its own goes before", 60, () -> x.setPressure(2, 60));
        check.due("4: 3 falls back to 2", 60, () -> x.setPressure(3, -1));
        check.due("4: 2 falls back to 1", 0, () -> x.setPressure(2, -1));
        check.due("4: 3 falls back to 1", 0, () -> x.setPressure(3, -1));
        check.due("4: another branch", 50, () -> x.setPressure(4, -1));
        check.due("4: 1 falls back", 50, () -> x.setPressure(1, -1));
        x.toggleValve(1);
        check.due("4: a shut valve is nothing to it", 70, () -> x.setPressure(1, 70));
        check.due("4: below a shut valve", 70, () -> x.setPressure(3, -1));
    }

    /** The factors are read off a node whose background of 1000 makes its leakage the factor. */
    private static void promise4Factors() {
        int[] factors = {0, 120, 280, 490, 730, 1000, 1290, 1600, 1930, 2280, 2650};
        Desk x = new Desk();
        x.addNode(0, 0);
        x.setBackground(1, 1000);
        for (int pressure = 0; pressure <= 100; pressure++) {
            int row = pressure / 10;
            int over = pressure % 10;
            int want = over == 0 ? factors[row] : factors[row] + (factors[row + 1] - factors[row]) * over / 10;
            x.setPressure(1, pressure);
            check.due("4: the factor for " + pressure, want, () -> x.takes(1));
        }
    }

    private static void promise5() {
        Desk x = new Desk();
        x.addNode(0, 4);
        x.addNode(1, 5);
        check.due("5: it had none", true, () -> x.addMeter(2));
        check.due("5: it had one", false, () -> x.addMeter(2));
        check.due("5: the other had none", Check.STATE, () -> x.flow(1));
        check.due("5: the other had none", true, () -> x.addMeter(1));
        check.due("5: it stays", 5, () -> x.flow(2));
    }

    private static void promise6() {
        Desk x = new Desk();
        x.addNode(0, 4);
        x.addNode(1, 5);
        check.due("6: shuts", false, () -> x.toggleValve(1));
        check.due("6: shuts another", false, () -> x.toggleValve(2));
        check.due("6: opens", true, () -> x.toggleValve(1));
        check.due("6: the other is still shut", false, () -> x.isSupplied(2));
        check.due("6: opens the other", true, () -> x.toggleValve(2));
    }

    private static void promise7() {
        Desk x = new Desk();
        x.addNode(0, 1);
        x.addNode(1, 1);
        x.addNode(2, 1);
        x.addNode(1, 1);
        x.toggleValve(2);
        check.due("7: the source", true, () -> x.isSupplied(0));
        check.due("7: above the shut valve", true, () -> x.isSupplied(1));
        check.due("7: at the shut valve", false, () -> x.isSupplied(2));
        check.due("7: below the shut valve", false, () -> x.isSupplied(3));
        check.due("7: beside the shut valve", true, () -> x.isSupplied(4));
        x.addNode(3, 1);
        check.due("7: added below the shut valve", false, () -> x.isSupplied(5));
        x.toggleValve(3);
        x.toggleValve(2);
        check.due("7: one of two opened", false, () -> x.isSupplied(5));
        x.toggleValve(3);
        check.due("7: both opened", true, () -> x.isSupplied(5));
    }

    private static void promise8() {
        Desk x = new Desk();
        x.addNode(0, 10);
        x.addNode(1, 20);
        x.setBackground(2, 3);
        x.burst(2, 4, 1);
        x.burst(2, 5, 1);
        check.due("8: use, background and bursts", 32, () -> x.takes(2));
        x.setPressure(1, 45);
        check.due("8: rounded down once for all of them", 30, () -> x.takes(2));
        x.repair(1);
        check.due("8: without a repaired burst", 26, () -> x.takes(2));
        x.toggleValve(1);
        check.due("8: not supplied", 0, () -> x.takes(2));
        x.toggleValve(1);
        check.due("8: supplied again", 26, () -> x.takes(2));
        Desk y = new Desk();
        y.addNode(0, 10000);
        y.setBackground(1, 10000);
        y.setPressure(1, 100);
        for (int i = 0; i < 20; i++) {
            y.burst(1, 10000, 1);
        }
        check.due("8: the most that a node takes", 566500, () -> y.takes(1));
    }

    private static void promise9() {
        Desk x = new Desk();
        x.addNode(0, 1);
        x.addNode(1, 10);
        x.addNode(2, 100);
        x.addNode(1, 1000);
        x.setBackground(0, 5000);
        check.refused("9: no meter", Check.STATE, x, () -> x.flow(1));
        x.addMeter(1);
        x.addMeter(2);
        check.due("9: all below", 1111, () -> x.flow(1));
        check.due("9: a branch", 110, () -> x.flow(2));
        x.setBackground(3, 7);
        check.due("9: with leakage", 117, () -> x.flow(2));
        x.toggleValve(3);
        check.due("9: less what is shut below", 10, () -> x.flow(2));
        x.toggleValve(1);
        check.due("9: shut above", 0, () -> x.flow(2));
    }

    private static void promise10() {
        Desk x = new Desk();
        x.setBackground(0, 10000);
        check.due("10: the source takes, too", 10000, () -> x.allFlow());
        x.addNode(0, 1);
        x.addNode(1, 10);
        x.addNode(0, 100);
        check.due("10: all nodes", 10111, () -> x.allFlow());
        x.toggleValve(1);
        check.due("10: those that are supplied", 10100, () -> x.allFlow());
        Desk y = new Desk();
        for (int node = 1; node <= 15; node++) {
            y.addNode(node - 1, 10000);
            y.setBackground(node, 10000);
        }
        y.setPressure(1, 100);
        check.due("10: 15 nodes at their most", 547500, () -> y.allFlow());
    }
}
