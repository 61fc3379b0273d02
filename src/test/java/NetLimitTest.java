/** The limits of the net, promises 1 to 10: a method for each sentence that names one, inside it and beyond it. */
public final class NetLimitTest {
    private static final Check check = new Check("NetLimitTest");

    public static void main(String[] args) {
        calls512();
        newNet();
        newPipe();
        addNodeUse();
        addNodeOn();
        addNode16();
        addNodeOrder();
        setBackgroundAmount();
        setBackgroundNode();
        setBackgroundOrder();
        setPressurePressure();
        setPressurePipe();
        setPressureOrder();
        pressureOnTheWay();
        pressureOfSource();
        factorsBetween();
        leakageRoundedDown();
        addMeterPipe();
        toggleValvePipe();
        isSuppliedNode();
        suppliedOnTheWay();
        takesNode();
        flowPipe();
        flowWithoutMeter();
        flowBelow();
        allFlowLimits();
        check.end();
    }

    // ---- what it is, terms.

    private static void calls512() {
        Desk x = new Desk();
        x.addNode(0, 7);
        for (int call = 2; call <= 511; call++) {
            boolean open = call % 2 == 1;
            check.due("512 calls: call " + call, open, () -> x.toggleValve(1));
        }
        check.due("512 calls: the 512th", 7, () -> x.allFlow());
        Desk y = new Desk();
        y.addNode(0, 7);
        for (int call = 2; call <= 511; call++) {
            check.due("512 calls: refused call " + call, Check.INDEX, () -> y.addNode(2, 1));
        }
        check.due("512 calls: the 512th behind refused ones", 2, () -> y.addNode(1, 1));
    }

    /** The source has no pipe, whatever hangs on it. */
    private static void refusePipes(String what, Desk x, int last) {
        check.refusedBeyond(what + ": addMeter", Check.INDEX, x, 1, last, pipe -> x.addMeter(pipe));
        check.refusedBeyond(what + ": toggleValve", Check.INDEX, x, 1, last, pipe -> x.toggleValve(pipe));
        check.refusedBeyond(what + ": flow", Check.INDEX, x, 1, last, pipe -> x.flow(pipe));
        check.refusedBeyond(what + ": setPressure", Check.INDEX, x, 1, last, pipe -> x.setPressure(pipe, 50));
    }

    // ---- promise 1.

    private static void newNet() {
        Desk x = new Desk();
        check.due("1: all flow", 0, () -> x.allFlow());
        check.due("1: the source takes", 0, () -> x.takes(0));
        check.due("1: the source is supplied", true, () -> x.isSupplied(0));
        check.due("1: nothing to plan with no hours", 0, () -> x.plan(0));
        check.due("1: nothing to plan with most hours", 0, () -> x.plan(1000));
        check.refused("1: no node hangs on the source", Check.INDEX, x, () -> x.takes(1));
        check.refused("1: no area", Check.INDEX, x, () -> x.nodes(0));
        check.refused("1: no area for an export", Check.INDEX, x, () -> x.addExport(0, 0));
        check.refused("1: no burst", Check.INDEX, x, () -> x.cost(0));
        check.refused("1: no place", Check.INDEX, x, () -> x.ranked(0));
        refusePipes("1", new Desk(), 0);
        check.due("1: the first node is 1", 1, () -> x.addNode(0, 0));
        check.due("1: the first area is 0", 0, () -> x.addArea(0));
        check.due("1: the first burst is 0", 0, () -> x.burst(0, 1, 1));
    }

    private static void newPipe() {
        Desk x = new Desk();
        x.addNode(0, 1);
        check.due("terms: open at first", true, () -> x.isSupplied(1));
        check.due("terms: shut by the first toggle", false, () -> x.toggleValve(1));
        check.refused("terms: without a meter at first", Check.STATE, x, () -> x.flow(1));
        check.due("terms: without pressure at first", 50, () -> x.setPressure(1, -1));
        check.due("terms: without background at first", 0, () -> x.setBackground(1, 0));
    }

    // ---- promise 2.

    private static void addNodeUse() {
        Desk x = new Desk();
        check.due("2: use 0", 1, () -> x.addNode(0, 0));
        check.due("2: use 10000", 2, () -> x.addNode(0, 10000));
        check.due("2: takes use 0", 0, () -> x.takes(1));
        check.due("2: takes use 10000", 10000, () -> x.takes(2));
        check.refusedBeyond("2: use", Check.ARGUMENT, x, 0, 10000, use -> x.addNode(0, use));
    }

    private static void addNodeOn() {
        Desk x = new Desk();
        check.refusedBeyond("2: of one node, on", Check.INDEX, x, 0, 0, on -> x.addNode(on, 1));
        check.due("2: on node 0", 1, () -> x.addNode(0, 1));
        check.due("2: on the last node", 2, () -> x.addNode(1, 1));
        check.refusedBeyond("2: of three nodes, on", Check.INDEX, x, 0, 2, on -> x.addNode(on, 1));
        x.toggleValve(1);
        check.due("2: hangs on the last node", false, () -> x.isSupplied(2));
    }

    private static void addNode16() {
        Desk x = new Desk();
        for (int node = 1; node <= 15; node++) {
            int above = node - 1;
            check.due("2: node " + node, node, () -> x.addNode(above, 1));
        }
        check.due("2: 16 nodes", 15, () -> x.allFlow());
        check.refused("2: a 17th on the source", Check.STATE, x, () -> x.addNode(0, 0));
        check.refused("2: a 17th on the 16th", Check.STATE, x, () -> x.addNode(15, 10000));
    }

    private static void addNodeOrder() {
        Desk one = new Desk();
        check.refused("2: use ahead of node", Check.ARGUMENT, one, () -> one.addNode(1, -1));
        Desk x = Nets.line();
        check.refused("2: use ahead of node and state", Check.ARGUMENT, x, () -> x.addNode(16, 10001));
        check.refused("2: use ahead of state", Check.ARGUMENT, x, () -> x.addNode(15, -1));
        check.refusedBeyond("2: node ahead of state, on", Check.INDEX, x, 0, 15, on -> x.addNode(on, 0));
    }

    // ---- promise 3.

    private static void setBackgroundAmount() {
        Desk x = new Desk();
        check.due("3: amount 10000", 10000, () -> x.setBackground(0, 10000));
        check.due("3: amount 0", 0, () -> x.setBackground(0, 0));
        check.due("3: amount 1", 1, () -> x.setBackground(0, 1));
        check.refusedBeyond("3: amount", Check.ARGUMENT, x, 0, 10000, amount -> x.setBackground(0, amount));
        check.due("3: the last one stands behind refused calls", 1, () -> x.takes(0));
    }

    private static void setBackgroundNode() {
        Desk x = new Desk();
        check.refusedBeyond("3: of one node,", Check.INDEX, x, 0, 0, node -> x.setBackground(node, 5));
        x.addNode(0, 0);
        check.due("3: the last node", 5, () -> x.setBackground(1, 5));
        check.refusedBeyond("3: of two nodes,", Check.INDEX, x, 0, 1, node -> x.setBackground(node, 5));
        Desk y = Nets.line();
        check.due("3: node 0 of 16", 6, () -> y.setBackground(0, 6));
        check.due("3: node 15 of 16", 7, () -> y.setBackground(15, 7));
        check.refusedBeyond("3: of 16 nodes,", Check.INDEX, y, 0, 15, node -> y.setBackground(node, 5));
        y.toggleValve(1);
        check.due("3: told where it is not supplied", 8, () -> y.setBackground(15, 8));
    }

    private static void setBackgroundOrder() {
        Desk x = new Desk();
        check.refused("3: amount below ahead of node above", Check.ARGUMENT, x, () -> x.setBackground(1, -1));
        check.refused("3: amount above ahead of node below", Check.ARGUMENT, x, () -> x.setBackground(-1, 10001));
    }

    // ---- promise 4.

    private static void setPressurePressure() {
        Desk x = new Desk();
        x.addNode(0, 0);
        check.due("4: -1 where nothing was set", 50, () -> x.setPressure(1, -1));
        check.due("4: 100", 100, () -> x.setPressure(1, 100));
        check.due("4: 0", 0, () -> x.setPressure(1, 0));
        check.due("4: -1 where 0 was set", 50, () -> x.setPressure(1, -1));
        check.due("4: 99", 99, () -> x.setPressure(1, 99));
        check.due("4: 1", 1, () -> x.setPressure(1, 1));
        check.refusedBeyond("4: pressure", Check.ARGUMENT, x, -1, 100, pressure -> x.setPressure(1, pressure));
        check.due("4: the last one stands behind refused calls", 12, () -> x.setBackground(1, 1000));
    }

    private static void setPressurePipe() {
        refusePipes("4: the source alone", new Desk(), 0);
        Desk x = new Desk();
        x.addNode(0, 0);
        x.addNode(0, 0);
        check.due("4: pipe 1", 10, () -> x.setPressure(1, 10));
        check.due("4: the last pipe", 20, () -> x.setPressure(2, 20));
        check.refusedBeyond("4: of two,", Check.INDEX, x, 1, 2, pipe -> x.setPressure(pipe, 30));
        check.refusedBeyond("4: to set it no more, of two,", Check.INDEX, x, 1, 2, pipe -> x.setPressure(pipe, -1));
        Desk y = Nets.line();
        check.due("4: pipe 15 of 15", 30, () -> y.setPressure(15, 30));
        check.due("4: pipe 1 of 15", 40, () -> y.setPressure(1, 40));
        check.refusedBeyond("4: of 15,", Check.INDEX, y, 1, 15, pipe -> y.setPressure(pipe, 30));
    }

    private static void setPressureOrder() {
        Desk x = new Desk();
        check.refused("4: pressure below ahead of pipe", Check.ARGUMENT, x, () -> x.setPressure(1, -2));
        check.refused("4: pressure above ahead of the source's", Check.ARGUMENT, x, () -> x.setPressure(0, 101));
        check.refused("4: pressure ahead of a pipe below", Check.ARGUMENT, x, () -> x.setPressure(-1, 101));
    }

    /** The last one that is set counts, 0 as any other. */
    private static void pressureOnTheWay() {
        Desk x = Nets.line();
        x.setPressure(1, 80);
        check.due("4: from the first pipe to the last node", 80, () -> x.setPressure(15, -1));
        x.setPressure(14, 0);
        check.due("4: 0 is set", 0, () -> x.setPressure(15, -1));
        check.due("4: its own", 100, () -> x.setPressure(15, 100));
        check.due("4: above what is set below", 80, () -> x.setPressure(13, -1));
        x.setPressure(14, -1);
        check.due("4: set no more", 80, () -> x.setPressure(15, -1));
        x.setPressure(1, -1);
        check.due("4: none left", 50, () -> x.setPressure(15, -1));
    }

    private static void pressureOfSource() {
        Desk x = new Desk();
        x.addNode(0, 0);
        x.setPressure(1, 100);
        check.due("4: the source's is 50 whatever is set", 1000, () -> x.setBackground(0, 1000));
    }

    /** On each side of each pressure that the document gives a factor for. */
    private static void factorsBetween() {
        int[] below = {0, 108, 264, 469, 706, 973, 1261, 1569, 1897, 2245, 2613};
        int[] at = {0, 120, 280, 490, 730, 1000, 1290, 1600, 1930, 2280, 2650};
        int[] above = {12, 136, 301, 514, 757, 1029, 1321, 1633, 1965, 2317};
        Desk x = new Desk();
        x.addNode(0, 0);
        x.setBackground(1, 1000);
        for (int i = 0; i <= 10; i++) {
            if (i > 0) {
                x.setPressure(1, 10 * i - 1);
                check.due("terms: the factor for " + (10 * i - 1), below[i], () -> x.takes(1));
            }
            x.setPressure(1, 10 * i);
            check.due("terms: the factor for " + 10 * i, at[i], () -> x.takes(1));
            if (i < 10) {
                x.setPressure(1, 10 * i + 1);
                check.due("terms: the factor for " + (10 * i + 1), above[i], () -> x.takes(1));
            }
        }
    }

    private static void leakageRoundedDown() {
        Desk x = new Desk();
        x.addNode(0, 0);
        x.setPressure(1, 49);
        check.due("terms: 1 * 973 / 1000", 0, () -> x.setBackground(1, 1));
        check.due("terms: 2 * 973 / 1000", 1, () -> x.setBackground(1, 2));
        check.due("terms: 999 * 973 / 1000", 972, () -> x.setBackground(1, 999));
        check.due("terms: 1000 * 973 / 1000", 973, () -> x.setBackground(1, 1000));
        x.setPressure(1, 0);
        check.due("terms: nothing at pressure 0", 0, () -> x.setBackground(1, 10000));
        x.setPressure(1, 1);
        check.due("terms: 83 * 12 / 1000", 0, () -> x.setBackground(1, 83));
        check.due("terms: 84 * 12 / 1000", 1, () -> x.setBackground(1, 84));
        check.due("terms: 250 * 12 / 1000", 3, () -> x.setBackground(1, 250));
        check.due("terms: 249 * 12 / 1000", 2, () -> x.setBackground(1, 249));
    }

    // ---- promises 5 and 6.

    private static void addMeterPipe() {
        Desk x = new Desk();
        x.addNode(0, 0);
        x.addNode(0, 0);
        check.due("5: pipe 1 had none", true, () -> x.addMeter(1));
        check.due("5: the last pipe had none", true, () -> x.addMeter(2));
        check.due("5: pipe 1 had one", false, () -> x.addMeter(1));
        check.due("5: and still has", false, () -> x.addMeter(1));
        check.due("5: that reads", 0, () -> x.flow(1));
        check.refusedBeyond("5: of two,", Check.INDEX, x, 1, 2, pipe -> x.addMeter(pipe));
        x.addNode(0, 0);
        check.due("5: a new one has none behind refused calls", true, () -> x.addMeter(3));
        Desk y = Nets.line();
        check.due("5: pipe 15 of 15", true, () -> y.addMeter(15));
        check.due("5: pipe 15 had one", false, () -> y.addMeter(15));
        check.refusedBeyond("5: of 15,", Check.INDEX, y, 1, 15, pipe -> y.addMeter(pipe));
    }

    private static void toggleValvePipe() {
        Desk x = new Desk();
        x.addNode(0, 0);
        x.addNode(0, 0);
        check.due("6: pipe 1", false, () -> x.toggleValve(1));
        check.due("6: the last pipe", false, () -> x.toggleValve(2));
        check.refusedBeyond("6: of two,", Check.INDEX, x, 1, 2, pipe -> x.toggleValve(pipe));
        check.due("6: pipe 1 opens", true, () -> x.toggleValve(1));
        x.addNode(0, 0);
        check.due("6: a new one is open behind refused calls", true, () -> x.isSupplied(3));
        Desk y = Nets.line();
        check.due("6: pipe 15 of 15", false, () -> y.toggleValve(15));
        check.due("6: below a shut one", true, () -> y.toggleValve(15));
        check.refusedBeyond("6: of 15,", Check.INDEX, y, 1, 15, pipe -> y.toggleValve(pipe));
    }

    // ---- promises 7 and 8.

    private static void isSuppliedNode() {
        Desk x = new Desk();
        check.refusedBeyond("7: of one node,", Check.INDEX, x, 0, 0, node -> x.isSupplied(node));
        x.addNode(0, 0);
        check.due("7: the last node", true, () -> x.isSupplied(1));
        check.refusedBeyond("7: of two nodes,", Check.INDEX, x, 0, 1, node -> x.isSupplied(node));
        Desk y = Nets.line();
        check.due("7: node 0 of 16", true, () -> y.isSupplied(0));
        check.due("7: node 15 of 16", true, () -> y.isSupplied(15));
        check.refusedBeyond("7: of 16 nodes,", Check.INDEX, y, 0, 15, node -> y.isSupplied(node));
    }

    private static void suppliedOnTheWay() {
        Desk x = Nets.line();
        for (int i = 1; i <= 15; i++) {
            int pipe = i;
            x.toggleValve(pipe);
            check.due("7: the last node with pipe " + pipe + " shut", false, () -> x.isSupplied(15));
            check.due("7: the node above pipe " + pipe, true, () -> x.isSupplied(pipe - 1));
            check.due("7: the node of pipe " + pipe, false, () -> x.isSupplied(pipe));
            x.toggleValve(pipe);
        }
        for (int pipe = 1; pipe <= 15; pipe++) {
            x.toggleValve(pipe);
        }
        check.due("7: the source with all pipes shut", true, () -> x.isSupplied(0));
        check.due("8: nothing with all pipes shut", 0, () -> x.takes(15));
    }

    private static void takesNode() {
        Desk x = new Desk();
        check.refusedBeyond("8: of one node,", Check.INDEX, x, 0, 0, node -> x.takes(node));
        x.addNode(0, 3);
        check.due("8: the last node", 3, () -> x.takes(1));
        check.refusedBeyond("8: of two nodes,", Check.INDEX, x, 0, 1, node -> x.takes(node));
        Desk y = Nets.line();
        check.due("8: node 0 of 16", 0, () -> y.takes(0));
        check.due("8: node 15 of 16", 15, () -> y.takes(15));
        check.refusedBeyond("8: of 16 nodes,", Check.INDEX, y, 0, 15, node -> y.takes(node));
        y.toggleValve(15);
        check.due("8: 0 if it is not supplied", 0, () -> y.takes(15));
    }

    // ---- promises 9 and 10.

    private static void flowPipe() {
        Desk x = new Desk();
        x.addNode(0, 3);
        x.addNode(0, 4);
        x.addMeter(1);
        x.addMeter(2);
        check.due("9: pipe 1", 3, () -> x.flow(1));
        check.due("9: the last pipe", 4, () -> x.flow(2));
        check.refusedBeyond("9: of two,", Check.INDEX, x, 1, 2, pipe -> x.flow(pipe));
        Desk y = Nets.line();
        y.addMeter(15);
        check.due("9: pipe 15 of 15", 15, () -> y.flow(15));
        check.refusedBeyond("9: of 15,", Check.INDEX, y, 1, 15, pipe -> y.flow(pipe));
    }

    private static void flowWithoutMeter() {
        Desk x = new Desk();
        x.addNode(0, 3);
        x.addNode(1, 4);
        x.addMeter(2);
        check.refused("9: a meter below alone", Check.STATE, x, () -> x.flow(1));
        check.due("9: with a meter", 4, () -> x.flow(2));
        x.toggleValve(1);
        check.refused("9: without a meter, shut", Check.STATE, x, () -> x.flow(1));
        check.due("9: nothing flows to what is not supplied", 0, () -> x.flow(2));
        x.addMeter(1);
        check.due("9: nothing flows through a shut valve", 0, () -> x.flow(1));
    }

    private static void flowBelow() {
        Desk x = Nets.line();
        x.addMeter(1);
        x.setBackground(0, 10000);
        check.due("9: all 15 below the first pipe, not the source", 120, () -> x.flow(1));
        x.toggleValve(15);
        check.due("9: without the last", 105, () -> x.flow(1));
        x.toggleValve(2);
        check.due("9: the node itself alone", 1, () -> x.flow(1));
    }

    private static void allFlowLimits() {
        Desk x = new Desk();
        check.due("10: nothing", 0, () -> x.allFlow());
        x.setBackground(0, 1);
        check.due("10: the source alone", 1, () -> x.allFlow());
        Desk y = new Desk();
        y.setBackground(0, 10000);
        for (int node = 1; node <= 15; node++) {
            y.addNode(node - 1, 10000);
            y.setBackground(node, 10000);
        }
        y.setPressure(1, 100);
        y.addMeter(1);
        for (int burst = 0; burst < 20; burst++) {
            y.burst(15, 10000, 100);
        }
        check.due("8: the most that a node takes", 566500, () -> y.takes(15));
        check.due("9: the most that flows in a pipe", 1077500, () -> y.flow(1));
        check.due("10: the most that flows in all", 1087500, () -> y.allFlow());
        y.toggleValve(1);
        check.due("10: the source alone, all else shut", 10000, () -> y.allFlow());
    }
}
