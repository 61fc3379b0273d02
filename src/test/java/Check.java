import java.util.List;
import java.util.function.IntFunction;

/** Counts the checks of one test program and prints those that go wrong. */
final class Check {
    static final String ARGUMENT = "throws.IllegalArgumentException";
    static final String INDEX = "throws.IndexOutOfBoundsException";
    static final String STATE = "throws.IllegalStateException";

    /** Beyond each range of the document, but some fall into one where a shift, a byte or a short cuts them. */
    private static final int[] FAR = {
        Integer.MIN_VALUE, Integer.MIN_VALUE + 1, -65535, -255, -63, -31, -2,
        32, 33, 64, 256, 257, 65536, 65537, 1 << 30, Integer.MAX_VALUE - 1, Integer.MAX_VALUE};

    interface Call {
        Object run();
    }

    private final String program;
    private int checks;
    private int wrong;

    Check(String program) {
        this.program = program;
    }

    /** What a call answers, or the name of what it throws behind "throws.". */
    static String answer(Call call) {
        try {
            return String.valueOf(call.run());
        } catch (RuntimeException e) {
            return "throws." + e.getClass().getSimpleName();
        }
    }

    void due(String what, Object want, Call call) {
        same(what, String.valueOf(want), answer(call));
    }

    /** Checks also that the call changes nothing that can be asked for. */
    void refused(String what, String want, Desk x, Call call) {
        int before = x.calls();
        same(what, want, answer(call));
        if (x.calls() != before + 1) {
            throw new AssertionError(what + " is not one call of the desk");
        }
        List<String> due = x.everythingBehind(before);
        List<String> got = x.everythingBehind(before + 1);
        checks++;
        if (!due.equals(got)) {
            wrong++;
            for (int i = 0; i < due.size(); i++) {
                if (!due.get(i).equals(got.get(i))) {
                    System.out.println(program + ": behind " + what + ", refused, " + got.get(i) + "; without it, " + due.get(i));
                }
            }
        }
    }

    /** Checks that every number next to a range, and some far beyond it, is refused and changes nothing. */
    void refusedBeyond(String what, String want, Desk x, int least, int most, IntFunction<Object> call) {
        refused(what + " " + (least - 1), want, x, () -> call.apply(least - 1));
        refused(what + " " + (most + 1), want, x, () -> call.apply(most + 1));
        for (int number : FAR) {
            if (number < least || number > most) {
                refused(what + " " + number, want, x, () -> call.apply(number));
            }
        }
    }

    void same(String what, String want, String got) {
        checks++;
        if (!want.equals(got)) {
            wrong++;
            System.out.println(program + ": " + what + " answered " + got + ", due is " + want);
        }
    }

    void end() {
        System.out.println(program + ": " + checks + " checks, " + wrong + " wrong");
        if (wrong != 0) {
            System.exit(1);
        }
    }
}
