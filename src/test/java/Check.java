import java.util.ArrayList;
import java.util.List;

/** Counts the checks of one test program and prints those that go wrong. */
final class Check {
    static final String ARGUMENT = "throws.IllegalArgumentException";
    static final String INDEX = "throws.IndexOutOfBoundsException";
    static final String STATE = "throws.IllegalStateException";

    interface Call {
        Object run();
    }

    private final String program;
    private int checks;
    private int wrong;

    Check(String program) {
        this.program = program;
    }

    /** What a call answers, or the name of what it throws behind "throws.". */
    static String answer(Call call) {
        try {
            return String.valueOf(call.run());
        } catch (RuntimeException e) {
            return "throws." + e.getClass().getSimpleName();
        }
    }

    void due(String what, Object want, Call call) {
        same(what, String.valueOf(want), answer(call));
    }

    /** Checks also that the call changes nothing that can be asked for. */
    void refused(String what, String want, Districtmeter x, Call call) {
        List<String> before = everythingOf(x);
        same(what, want, answer(call));
        same(what + ": state behind it", before.toString(), everythingOf(x).toString());
    }

    void same(String what, String want, String got) {
        checks++;
        if (!want.equals(got)) {
            wrong++;
            System.out.println(program + ": " + what + " answered " + got + ", due is " + want);
        }
    }

    void end() {
        System.out.println(program + ": " + checks + " checks, " + wrong + " wrong");
        if (wrong != 0) {
            System.exit(1);
        }
    }

    /** The answers of all calls that only ask. */
    static List<String> everythingOf(Districtmeter x) {
        List<String> all = new ArrayList<>();
        all.add(answer(x::allFlow));
        for (int i = -1; i <= 16; i++) {
            int node = i;
            all.add(answer(() -> x.isSupplied(node)));
            all.add(answer(() -> x.takes(node)));
            all.add(answer(() -> x.flow(node)));
        }
        for (int i = -1; i <= 8; i++) {
            int area = i;
            all.add(answer(() -> x.nodes(area)));
            all.add(answer(() -> x.areaFlow(area)));
            all.add(answer(() -> x.areaTakes(area)));
            all.add(answer(() -> x.loss(area)));
            all.add(answer(() -> x.steps(area)));
            for (int j = -1; j <= 16; j++) {
                int step = j;
                all.add(answer(() -> x.stepPipe(area, step)));
                all.add(answer(() -> x.drop(area, step)));
            }
        }
        for (int i = -1; i <= 20; i++) {
            int number = i;
            all.add(answer(() -> x.cost(number)));
            all.add(answer(() -> x.ranked(number)));
        }
        for (int i = -1; i <= 1001; i += 13) {
            int hours = i;
            all.add(answer(() -> x.plan(hours)));
        }
        return all;
    }
}
