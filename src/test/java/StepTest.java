/** Promises 17 to 19, step tests: what their calls answer; AreaLimitTest has their limits. */
public final class StepTest {
    private static final Check check = new Check("StepTest");

    public static void main(String[] args) {
        promise17();
        promise18();
        promise19();
        check.end();
    }

    private static void promise17() {
        Desk x = Nets.branched();
        x.addArea(0);
        x.addArea(1);
        check.due("17: all pipes", 6, () -> x.steps(0));
        check.due("17: the inlet's is none of them", 4, () -> x.steps(1));
        x.addExport(1, 3);
        check.due("17: nor is what is below an export", 2, () -> x.steps(1));
        x.toggleValve(2);
        check.due("17: nor one that is shut", 1, () -> x.steps(1));
        check.due("17: open ones below a shut one are", 5, () -> x.steps(0));
        x.toggleValve(2);
        x.toggleValve(1);
        check.due("17: whatever the inlet's valve is", 2, () -> x.steps(1));
        x.addArea(6);
        check.due("17: an inlet alone", 0, () -> x.steps(2));
    }

    private static void promise18() {
        Desk x = Nets.branched();
        x.addArea(1);
        check.due("18: the highest first", 5, () -> x.stepPipe(0, 0));
        check.due("18: the next", 4, () -> x.stepPipe(0, 1));
        check.due("18: the last", 2, () -> x.stepPipe(0, 3));
        x.toggleValve(4);
        check.due("18: a shut one is passed", 3, () -> x.stepPipe(0, 1));
        x.addExport(0, 5);
        check.due("18: an export's is passed", 3, () -> x.stepPipe(0, 0));
        Desk y = new Desk();
        for (int node = 1; node <= 15; node++) {
            y.addNode(0, 0);
        }
        y.addArea(0);
        check.due("18: the 16th node's", 15, () -> y.stepPipe(0, 0));
        check.due("18: the 15th step", 1, () -> y.stepPipe(0, 14));
        check.due("18: no 16th step", Check.INDEX, () -> y.stepPipe(0, 15));
    }

    private static void promise19() {
        Desk x = Nets.branched();
        x.addArea(1);
        check.due("19: the highest pipe", 32, () -> x.drop(0, 0));
        check.due("19: the next", 16, () -> x.drop(0, 1));
        check.due("19: what was shut before is no part", 8, () -> x.drop(0, 2));
        check.due("19: the last", 4, () -> x.drop(0, 3));
        check.due("19: only thought", 126, () -> x.allFlow());
        x.setBackground(4, 100);
        x.setPressure(4, 60);
        check.due("19: with leakage", 145, () -> x.drop(0, 1));
        x.toggleValve(3);
        check.due("19: below a shut valve", 0, () -> x.drop(0, 1));
        check.due("19: the step behind it", 4, () -> x.drop(0, 2));
        x.toggleValve(3);
        x.addExport(0, 4);
        check.due("19: the export is none of the area's flow", 8, () -> x.drop(0, 1));
        check.due("19: the last above an export", 4, () -> x.drop(0, 2));
        x.toggleValve(1);
        check.due("19: a shut inlet", 0, () -> x.drop(0, 0));
    }
}
