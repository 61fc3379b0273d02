/** The limits of areas and step tests, promises 11 to 19: a method for each sentence that names one. */
public final class AreaLimitTest {
    private static final Check check = new Check("AreaLimitTest");

    public static void main(String[] args) {
        noArea();
        addAreaInlet();
        addArea8();
        addAreaOrder();
        addExportArea();
        addExportNode();
        addExportInlet();
        addExportNotBelow();
        addExportTwice();
        addExportOrder();
        addExportUntilInletAlone();
        areaOfEachCall();
        nodesOfWholeNet();
        areaFlowOfSource();
        areaFlowInletMeter();
        areaFlowExportMeter();
        areaFlowExportBelowExport();
        areaFlowShut();
        areaTakesLimits();
        lossLimits();
        stepsNone();
        stepsMost();
        stepOfEachCall();
        dropLimits();
        check.end();
    }

    /** 16 nodes, each on the one before, and 8 areas, all with the same inlet; all pipes have meters. */
    private static Desk lineOf8Areas(int inlet) {
        Desk x = Nets.line();
        for (int pipe = 1; pipe <= 15; pipe++) {
            x.addMeter(pipe);
        }
        for (int area = 0; area <= 7; area++) {
            x.addArea(inlet);
        }
        return x;
    }

    private static void refuseAreas(String what, Desk x, int last) {
        check.refusedBeyond(what + ": nodes", Check.INDEX, x, 0, last, area -> x.nodes(area));
        check.refusedBeyond(what + ": areaFlow", Check.INDEX, x, 0, last, area -> x.areaFlow(area));
        check.refusedBeyond(what + ": areaTakes", Check.INDEX, x, 0, last, area -> x.areaTakes(area));
        check.refusedBeyond(what + ": loss", Check.INDEX, x, 0, last, area -> x.loss(area));
        check.refusedBeyond(what + ": steps", Check.INDEX, x, 0, last, area -> x.steps(area));
        check.refusedBeyond(what + ": stepPipe", Check.INDEX, x, 0, last, area -> x.stepPipe(area, 0));
        check.refusedBeyond(what + ": drop", Check.INDEX, x, 0, last, area -> x.drop(area, 0));
        check.refusedBeyond(what + ": addExport", Check.INDEX, x, 0, last, area -> x.addExport(area, 15));
    }

    private static void noArea() {
        refuseAreas("no area", Nets.line(), -1);
    }

    // ---- promise 11.

    private static void addAreaInlet() {
        Desk x = new Desk();
        check.refusedBeyond("11: of one node, inlet", Check.INDEX, x, 0, 0, inlet -> x.addArea(inlet));
        check.due("11: the source", 0, () -> x.addArea(0));
        x.addNode(0, 0);
        check.due("11: the last node", 1, () -> x.addArea(1));
        check.refusedBeyond("11: of two nodes, inlet", Check.INDEX, x, 0, 1, inlet -> x.addArea(inlet));
        check.due("11: numbers go on behind refused calls", 2, () -> x.addArea(1));
        Desk y = Nets.line();
        check.due("11: node 15 of 16", 0, () -> y.addArea(15));
        check.due("11: is its only node", 1 << 15, () -> y.nodes(0));
        check.refusedBeyond("11: of 16 nodes, inlet", Check.INDEX, y, 0, 15, inlet -> y.addArea(inlet));
    }

    private static void addArea8() {
        Desk x = Nets.line();
        for (int i = 0; i <= 7; i++) {
            int area = i;
            check.due("11: area " + area, area, () -> x.addArea(2 * area));
        }
        check.due("11: the first of 8", 65535, () -> x.nodes(0));
        check.due("11: the 8th of 8", 0b1100000000000000, () -> x.nodes(7));
        check.refused("11: a 9th", Check.STATE, x, () -> x.addArea(0));
        check.refused("11: a 9th at another node", Check.STATE, x, () -> x.addArea(15));
    }

    private static void addAreaOrder() {
        Desk x = lineOf8Areas(0);
        check.refusedBeyond("11: node ahead of state, inlet", Check.INDEX, x, 0, 15, inlet -> x.addArea(inlet));
    }

    // ---- promise 12.

    private static void addExportArea() {
        Desk x = Nets.line();
        x.addArea(0);
        check.due("12: the only area", 15, () -> x.addExport(0, 15));
        Desk y = lineOf8Areas(3);
        check.due("12: the first of 8", 12, () -> y.addExport(0, 15));
        check.due("12: the last of 8", 1, () -> y.addExport(7, 4));
        check.due("12: one between has none", 0b1111111111111000, () -> y.nodes(4));
        refuseAreas("one area", x, 0);
        refuseAreas("8 areas", y, 7);
    }

    private static void addExportNode() {
        Desk x = new Desk();
        x.addNode(0, 0);
        x.addArea(0);
        check.refusedBeyond("12: of two nodes,", Check.INDEX, x, 0, 1, node -> x.addExport(0, node));
        check.due("12: the last node", 1, () -> x.addExport(0, 1));
        Desk y = Nets.line();
        y.addArea(0);
        check.due("12: node 15 of 16", 15, () -> y.addExport(0, 15));
        check.due("12: node 1 of 16", 1, () -> y.addExport(0, 1));
        check.refusedBeyond("12: of 16 nodes,", Check.INDEX, y, 0, 15, node -> y.addExport(0, node));
    }

    private static void addExportInlet() {
        Desk x = Nets.branched();
        x.addArea(0);
        x.addArea(2);
        x.addArea(6);
        check.refused("12: the source as the inlet", Check.STATE, x, () -> x.addExport(0, 0));
        check.refused("12: the inlet", Check.STATE, x, () -> x.addExport(1, 2));
        check.refused("12: an inlet that nothing hangs on", Check.STATE, x, () -> x.addExport(2, 6));
        check.due("12: a node that hangs on it", 2, () -> x.addExport(1, 3));
    }

    private static void addExportNotBelow() {
        Desk x = Nets.branched();
        x.addArea(2);
        check.refused("12: the node that the inlet hangs on", Check.STATE, x, () -> x.addExport(0, 1));
        check.refused("12: the source", Check.STATE, x, () -> x.addExport(0, 0));
        check.refused("12: on another branch", Check.STATE, x, () -> x.addExport(0, 6));
        check.due("12: two below the inlet", 3, () -> x.addExport(0, 4));
        x.addNode(6, 0);
        check.refused("12: a new node of another branch", Check.STATE, x, () -> x.addExport(0, 7));
        x.addNode(5, 0);
        check.due("12: a new node below the inlet", 3, () -> x.addExport(0, 8));
    }

    private static void addExportTwice() {
        Desk x = Nets.branched();
        x.addArea(1);
        x.addArea(1);
        check.due("12: an export", 3, () -> x.addExport(0, 3));
        check.due("12: one beside it", 2, () -> x.addExport(0, 5));
        check.refused("12: an export again", Check.STATE, x, () -> x.addExport(0, 3));
        check.due("12: a node below an export is none", 2, () -> x.addExport(0, 4));
        check.refused("12: that again", Check.STATE, x, () -> x.addExport(0, 4));
        check.due("12: an export of another area is none of this", 3, () -> x.addExport(1, 3));
        check.due("12: a node above exports is none", 1, () -> x.addExport(0, 2));
        check.refused("12: an export below another again", Check.STATE, x, () -> x.addExport(0, 5));
    }

    private static void addExportOrder() {
        Desk x = Nets.line();
        x.addArea(5);
        x.addExport(0, 7);
        check.refused("12: no such area, the number of its inlet", Check.INDEX, x, () -> x.addExport(1, 5));
        check.refused("12: no such area, the number of an export", Check.INDEX, x, () -> x.addExport(-1, 7));
        check.refused("12: neither", Check.INDEX, x, () -> x.addExport(1, 16));
        check.refusedBeyond("12: node ahead of state,", Check.INDEX, x, 0, 15, node -> x.addExport(0, node));
    }

    private static void addExportUntilInletAlone() {
        Desk x = Nets.line();
        x.addArea(0);
        for (int i = 15; i >= 1; i--) {
            int node = i;
            check.due("12: exports down to node " + node, node, () -> x.addExport(0, node));
        }
        check.due("13: the inlet alone", 1, () -> x.nodes(0));
        check.refused("12: with all nodes exports, the inlet", Check.STATE, x, () -> x.addExport(0, 0));
        check.refused("12: with all nodes exports, the last", Check.STATE, x, () -> x.addExport(0, 15));
        check.due("17: no steps", 0, () -> x.steps(0));
        x.addMeter(1);
        check.due("14: only the first of 15 exports counts", 0, () -> x.areaFlow(0));
    }

    // ---- promises 13 to 16.

    private static void areaOfEachCall() {
        Desk x = lineOf8Areas(14);
        for (int i = 0; i <= 7; i += 7) {
            int area = i;
            check.due("13: area " + area + " of 8", 0b1100000000000000, () -> x.nodes(area));
            check.due("14: area " + area + " of 8", 29, () -> x.areaFlow(area));
            check.due("15: area " + area + " of 8", 29, () -> x.areaTakes(area));
            check.due("16: area " + area + " of 8", 0, () -> x.loss(area));
            check.due("17: area " + area + " of 8", 1, () -> x.steps(area));
            check.due("18: area " + area + " of 8", 15, () -> x.stepPipe(area, 0));
            check.due("19: area " + area + " of 8", 15, () -> x.drop(area, 0));
        }
    }

    private static void nodesOfWholeNet() {
        Desk x = new Desk();
        x.addArea(0);
        check.due("13: the source alone", 1, () -> x.nodes(0));
        for (int i = 1; i <= 15; i++) {
            int node = i;
            x.addNode(node - 1, 0);
            check.due("13: with node " + node, (1 << node + 1) - 1, () -> x.nodes(0));
        }
    }

    private static void areaFlowOfSource() {
        Desk x = new Desk();
        x.addArea(0);
        check.due("14: nothing", 0, () -> x.areaFlow(0));
        x.setBackground(0, 10);
        x.addNode(0, 5);
        check.due("14: the source wants no meter", 15, () -> x.areaFlow(0));
        x.addExport(0, 1);
        check.refused("14: but its export", Check.STATE, x, () -> x.areaFlow(0));
        x.addMeter(1);
        check.due("14: that has one", 10, () -> x.areaFlow(0));
    }

    private static void areaFlowInletMeter() {
        Desk x = Nets.branched();
        x.addArea(1);
        x.addArea(4);
        for (int pipe = 2; pipe <= 6; pipe++) {
            x.addMeter(pipe);
        }
        check.refused("14: all but the inlet's", Check.STATE, x, () -> x.areaFlow(0));
        check.due("14: the one of an inlet that nothing hangs on", 16, () -> x.areaFlow(1));
        Desk y = Nets.branched();
        y.addArea(1);
        y.addMeter(1);
        check.due("14: no other than the inlet's", 62, () -> y.areaFlow(0));
    }

    private static void areaFlowExportMeter() {
        Desk x = Nets.branched();
        x.addArea(1);
        x.addExport(0, 3);
        x.addExport(0, 5);
        x.addMeter(1);
        check.refused("14: no export's", Check.STATE, x, () -> x.areaFlow(0));
        x.addMeter(3);
        check.refused("14: the first export's alone", Check.STATE, x, () -> x.areaFlow(0));
        x.addMeter(5);
        check.due("14: both", 6, () -> x.areaFlow(0));
        Desk y = Nets.branched();
        y.addArea(1);
        y.addExport(0, 3);
        y.addExport(0, 5);
        y.addMeter(1);
        y.addMeter(5);
        check.refused("14: the last export's alone", Check.STATE, y, () -> y.areaFlow(0));
        y.addMeter(4);
        check.refused("14: one below the export is none of its own", Check.STATE, y, () -> y.areaFlow(0));
    }

    private static void areaFlowExportBelowExport() {
        Desk x = Nets.line();
        x.addArea(1);
        x.addExport(0, 5);
        x.addExport(0, 10);
        x.addExport(0, 15);
        x.addMeter(1);
        x.addMeter(10);
        x.addMeter(15);
        check.refused("14: the outmost wants one", Check.STATE, x, () -> x.areaFlow(0));
        Desk y = Nets.line();
        y.addArea(1);
        y.addExport(0, 15);
        y.addExport(0, 10);
        y.addExport(0, 5);
        y.addMeter(1);
        y.addMeter(5);
        check.due("14: those below another count nothing and want none", 10, () -> y.areaFlow(0));
        y.addExport(0, 2);
        check.refused("14: a new outmost wants one", Check.STATE, y, () -> y.areaFlow(0));
        y.addMeter(2);
        check.due("14: and counts alone", 1, () -> y.areaFlow(0));
    }

    private static void areaFlowShut() {
        Desk x = Nets.branched();
        x.addArea(2);
        x.addExport(0, 3);
        x.toggleValve(3);
        x.addMeter(2);
        check.refused("14: a shut export wants one", Check.STATE, x, () -> x.areaFlow(0));
        x.addMeter(3);
        check.due("14: and counts nothing", 36, () -> x.areaFlow(0));
        x.toggleValve(1);
        check.due("14: nothing flows where nothing is supplied", 0, () -> x.areaFlow(0));
    }

    private static void areaTakesLimits() {
        Desk x = new Desk();
        x.addArea(0);
        check.due("15: nothing", 0, () -> x.areaTakes(0));
        for (int node = 1; node <= 15; node++) {
            x.addNode(node - 1, 10000);
            x.setBackground(node, 10000);
        }
        x.setBackground(0, 10000);
        x.setPressure(1, 100);
        for (int burst = 0; burst < 20; burst++) {
            x.burst(15, 10000, 1);
        }
        check.due("15: the most, without any meter", 1087500, () -> x.areaTakes(0));
        check.due("16: the most", 937500, () -> x.loss(0));
        x.toggleValve(15);
        check.due("15: without the last", 521000, () -> x.areaTakes(0));
        x.toggleValve(1);
        check.due("15: the source alone", 10000, () -> x.areaTakes(0));
    }

    private static void lossLimits() {
        Desk x = new Desk();
        x.addNode(0, 10000);
        x.addArea(1);
        check.due("16: no leakage", 0, () -> x.loss(0));
        x.setBackground(1, 1);
        check.due("16: the least", 1, () -> x.loss(0));
        x.setPressure(1, 49);
        check.due("16: rounded down to none", 0, () -> x.loss(0));
        x.setBackground(1, 10000);
        check.due("16: at 49", 9730, () -> x.loss(0));
        x.toggleValve(1);
        check.due("16: neither loss nor use where nothing is supplied", 0, () -> x.loss(0));
    }

    // ---- promises 17 to 19.

    private static void refuseSteps(String what, Desk x, int area, int last) {
        check.refusedBeyond(what + ": stepPipe", Check.INDEX, x, 0, last, step -> x.stepPipe(area, step));
        check.refusedBeyond(what + ": drop", Check.INDEX, x, 0, last, step -> x.drop(area, step));
    }

    private static void stepsNone() {
        Desk x = Nets.branched();
        x.addArea(6);
        check.due("17: nothing hangs on the inlet", 0, () -> x.steps(0));
        refuseSteps("none hangs", x, 0, -1);
        x.addArea(2);
        x.toggleValve(3);
        x.toggleValve(4);
        check.due("17: one of three open", 1, () -> x.steps(1));
        check.due("18: the one", 5, () -> x.stepPipe(1, 0));
        refuseSteps("one open", x, 1, 0);
        x.toggleValve(5);
        check.due("17: all shut", 0, () -> x.steps(1));
        refuseSteps("all shut", x, 1, -1);
        Desk y = new Desk();
        y.addArea(0);
        check.due("17: the source alone", 0, () -> y.steps(0));
        refuseSteps("the source alone", y, 0, -1);
    }

    private static void stepsMost() {
        Desk x = Nets.line();
        x.addArea(0);
        check.due("17: 15 pipes", 15, () -> x.steps(0));
        for (int i = 0; i <= 14; i++) {
            int step = i;
            check.due("18: step " + step + " of 15", 15 - step, () -> x.stepPipe(0, step));
            check.due("19: step " + step + " of 15", 15 - step, () -> x.drop(0, step));
        }
        refuseSteps("15 steps", x, 0, 14);
    }

    private static void stepOfEachCall() {
        Desk x = Nets.branched();
        x.addArea(2);
        check.due("18: the first", 5, () -> x.stepPipe(0, 0));
        check.due("19: the first", 32, () -> x.drop(0, 0));
        check.due("18: the last", 3, () -> x.stepPipe(0, 2));
        check.due("19: the last", 8, () -> x.drop(0, 2));
        refuseSteps("three steps", x, 0, 2);
        check.refused("18: neither area nor step", Check.INDEX, x, () -> x.stepPipe(1, 3));
        check.refused("19: neither area nor step", Check.INDEX, x, () -> x.drop(-1, -1));
        x.addExport(0, 3);
        check.due("18: the last behind an export", 5, () -> x.stepPipe(0, 0));
        refuseSteps("one step behind an export", x, 0, 0);
    }

    private static void dropLimits() {
        Desk x = new Desk();
        for (int node = 1; node <= 3; node++) {
            x.addNode(node - 1, 0);
        }
        x.addArea(0);
        check.due("19: nothing taken, nothing dropped", 0, () -> x.drop(0, 0));
        x.setBackground(1, 10000);
        x.setPressure(1, 100);
        for (int burst = 0; burst < 20; burst++) {
            x.burst(1, 10000, 1);
        }
        check.due("19: the step before the last", 0, () -> x.drop(0, 1));
        check.due("19: the most leakage of a node", 556500, () -> x.drop(0, 2));
        x.toggleValve(1);
        check.due("19: below a shut valve", 0, () -> x.drop(0, 0));
        check.due("19: the last step below a shut valve", 0, () -> x.drop(0, 1));
        check.refused("19: the shut valve is no step", Check.INDEX, x, () -> x.drop(0, 2));
        Desk y = new Desk();
        y.addNode(0, 1);
        y.addNode(0, 2);
        y.addNode(1, 4);
        y.addArea(0);
        y.addExport(0, 3);
        check.due("19: a shut pipe above an export drops its own node alone", 1, () -> y.drop(0, 1));
    }
}
