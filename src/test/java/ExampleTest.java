/** The calls of README.md, in its order. */
public final class ExampleTest {
    private static final Check check = new Check("ExampleTest");

    public static void main(String[] args) {
        Districtmeter net = new Districtmeter();
        useNet(net);
        useAreas(net);
        useBursts(net);
        check.end();
    }

    private static void useNet(Districtmeter net) {
        check.due("addNode(0, 10)", 1, () -> net.addNode(0, 10));
        check.due("addNode(1, 20)", 2, () -> net.addNode(1, 20));
        check.due("addNode(2, 5)", 3, () -> net.addNode(2, 5));
        check.due("setBackground(2, 100)", 100, () -> net.setBackground(2, 100));
        check.due("setPressure(2, 40)", 40, () -> net.setPressure(2, 40));
        check.due("takes(2)", 93, () -> net.takes(2));
        check.due("addMeter(1)", true, () -> net.addMeter(1));
        check.due("flow(1)", 108, () -> net.flow(1));
        check.due("toggleValve(3)", false, () -> net.toggleValve(3));
        check.due("isSupplied(3)", false, () -> net.isSupplied(3));
        check.due("toggleValve(3) again", true, () -> net.toggleValve(3));
        check.due("allFlow()", 108, () -> net.allFlow());
    }

    private static void useAreas(Districtmeter net) {
        check.due("addArea(1)", 0, () -> net.addArea(1));
        check.due("addExport(0, 3)", 2, () -> net.addExport(0, 3));
        check.due("nodes(0)", 6, () -> net.nodes(0));
        check.due("areaFlow(0)", Check.STATE, () -> net.areaFlow(0));
        check.due("areaTakes(0)", 103, () -> net.areaTakes(0));
        check.due("loss(0)", 73, () -> net.loss(0));
        check.due("steps(0)", 1, () -> net.steps(0));
        check.due("stepPipe(0, 0)", 2, () -> net.stepPipe(0, 0));
        check.due("drop(0, 0)", 93, () -> net.drop(0, 0));
    }

    private static void useBursts(Districtmeter net) {
        check.due("burst(2, 50, 2)", 0, () -> net.burst(2, 50, 2));
        check.due("burst(1, 90, 3)", 1, () -> net.burst(1, 90, 3));
        check.due("cost(0)", 36, () -> net.cost(0));
        check.due("ranked(0)", 1, () -> net.ranked(0));
        check.due("plan(4)", 2, () -> net.plan(4));
        check.due("repair(1)", 90, () -> net.repair(1));
    }
}
