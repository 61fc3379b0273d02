import java.util.ArrayList;
import java.util.List;

/**
 * A Districtmeter that knows which calls were made on it, so that they can be made again on new objects:
 * only so can all be asked that there is to ask without a call beyond those that the document promises.
 */
final class Desk {
    private static final int MOST_CALLS = 512;
    private static final int MOST_CALLS_OF_QUESTION = 2;

    /** Each list is asked from its first question on, on a new object, as far as its calls reach. */
    private static final List<List<Question>> LISTS = List.of(asking(), opening(), leaking(), counting());

    interface Call {
        Object on(Districtmeter x);
    }

    private static final class Question {
        final String told;
        final Call call;

        Question(String told, Call call) {
            this.told = told;
            this.call = call;
        }
    }

    private final Districtmeter own = new Districtmeter();
    private final List<Call> made = new ArrayList<>();

    int calls() {
        return made.size();
    }

    /** What all questions answer behind the first so many calls, each behind what it asks. */
    List<String> everythingBehind(int calls) {
        List<String> answers = new ArrayList<>();
        for (List<Question> list : LISTS) {
            ask(list, calls, answers);
        }
        return answers;
    }

    private void ask(List<Question> list, int calls, List<String> answers) {
        // The same room however many of the calls are made again, so that each question follows the same ones.
        int room = (MOST_CALLS - made.size()) / MOST_CALLS_OF_QUESTION;
        if (room == 0) {
            throw new AssertionError("no call is left to ask with");
        }
        for (int from = 0; from < list.size(); from += room) {
            Districtmeter x = again(calls);
            for (Question q : list.subList(from, Math.min(from + room, list.size()))) {
                answers.add(q.told + " answers " + Check.answer(() -> q.call.on(x)));
            }
        }
    }

    private Districtmeter again(int calls) {
        Districtmeter x = new Districtmeter();
        for (Call call : made.subList(0, calls)) {
            Check.answer(() -> call.on(x));
        }
        return x;
    }

    private static List<Question> asking() {
        List<Question> list = new ArrayList<>();
        addFlows(list);
        for (int i = -1; i <= 8; i++) {
            int area = i;
            list.add(new Question("nodes(" + area + ")", x -> x.nodes(area)));
            list.add(new Question("areaFlow(" + area + ")", x -> x.areaFlow(area)));
            list.add(new Question("areaTakes(" + area + ")", x -> x.areaTakes(area)));
            list.add(new Question("loss(" + area + ")", x -> x.loss(area)));
            list.add(new Question("steps(" + area + ")", x -> x.steps(area)));
            for (int j = -1; j <= 16; j++) {
                int step = j;
                list.add(new Question("stepPipe(" + area + ", " + step + ")", x -> x.stepPipe(area, step)));
                list.add(new Question("drop(" + area + ", " + step + ")", x -> x.drop(area, step)));
            }
        }
        addRanks(list);
        return list;
    }

    /** What stands behind valves that are shut. */
    private static List<Question> opening() {
        List<Question> list = new ArrayList<>();
        for (int i = 1; i <= 16; i++) {
            int pipe = i;
            list.add(new Question("toggleValve(" + pipe + "), again if that shuts it,",
                x -> x.toggleValve(pipe) ? "true" : "false, " + x.toggleValve(pipe)));
        }
        addFlows(list);
        addRanks(list);
        return list;
    }

    /** Pressures where nothing leaks, too, and meters. */
    private static List<Question> leaking() {
        List<Question> list = new ArrayList<>();
        for (int i = 0; i <= 16; i++) {
            int node = i;
            list.add(new Question("setBackground(" + node + ", 10000)", x -> x.setBackground(node, 10000)));
            list.add(new Question("addMeter(" + node + ")", x -> x.addMeter(node)));
        }
        for (int i = 16; i >= 0; i--) {
            int pipe = i;
            list.add(new Question("setPressure(" + pipe + ", -1)", x -> x.setPressure(pipe, -1)));
        }
        return list;
    }

    /** How many nodes, areas and bursts there are, which exports and which repairs. */
    private static List<Question> counting() {
        List<Question> list = new ArrayList<>();
        for (int i = 0; i <= 8; i++) {
            int area = i;
            for (int j = 16; j >= 0; j--) {
                int node = j;
                list.add(new Question("addExport(" + area + ", " + node + ")", x -> x.addExport(area, node)));
            }
            list.add(new Question("addArea(0)", x -> x.addArea(0)));
        }
        for (int i = 0; i <= 20; i++) {
            int number = i;
            list.add(new Question("repair(" + number + ")", x -> x.repair(number)));
            list.add(new Question("burst(0, 1, 1)", x -> x.burst(0, 1, 1)));
        }
        for (int i = 1; i <= 16; i++) {
            list.add(new Question("addNode(0, 0)", x -> x.addNode(0, 0)));
        }
        return list;
    }

    private static void addFlows(List<Question> list) {
        list.add(new Question("allFlow()", x -> x.allFlow()));
        for (int i = -1; i <= 16; i++) {
            int node = i;
            list.add(new Question("isSupplied(" + node + ")", x -> x.isSupplied(node)));
            list.add(new Question("takes(" + node + ")", x -> x.takes(node)));
            list.add(new Question("flow(" + node + ")", x -> x.flow(node)));
        }
    }

    private static void addRanks(List<Question> list) {
        for (int i = -1; i <= 20; i++) {
            int number = i;
            list.add(new Question("cost(" + number + ")", x -> x.cost(number)));
            list.add(new Question("ranked(" + number + ")", x -> x.ranked(number)));
        }
        for (int i = -1; i <= 1001; i += 13) {
            int hours = i;
            list.add(new Question("plan(" + hours + ")", x -> x.plan(hours)));
        }
    }

    private Object make(Call call) {
        if (made.size() == MOST_CALLS) {
            throw new AssertionError("the document promises nothing about one more call");
        }
        made.add(call);
        return call.on(own);
    }

    // ---- the calls of the document.

    int addNode(int on, int use) {
        return (int) make(x -> x.addNode(on, use));
    }

    int setBackground(int node, int amount) {
        return (int) make(x -> x.setBackground(node, amount));
    }

    int setPressure(int pipe, int pressure) {
        return (int) make(x -> x.setPressure(pipe, pressure));
    }

    boolean addMeter(int pipe) {
        return (boolean) make(x -> x.addMeter(pipe));
    }

    boolean toggleValve(int pipe) {
        return (boolean) make(x -> x.toggleValve(pipe));
    }

    boolean isSupplied(int node) {
        return (boolean) make(x -> x.isSupplied(node));
    }

    int takes(int node) {
        return (int) make(x -> x.takes(node));
    }

    int flow(int pipe) {
        return (int) make(x -> x.flow(pipe));
    }

    int allFlow() {
        return (int) make(x -> x.allFlow());
    }

    int addArea(int inlet) {
        return (int) make(x -> x.addArea(inlet));
    }

    int addExport(int area, int node) {
        return (int) make(x -> x.addExport(area, node));
    }

    int nodes(int area) {
        return (int) make(x -> x.nodes(area));
    }

    int areaFlow(int area) {
        return (int) make(x -> x.areaFlow(area));
    }

    int areaTakes(int area) {
        return (int) make(x -> x.areaTakes(area));
    }

    int loss(int area) {
        return (int) make(x -> x.loss(area));
    }

    int steps(int area) {
        return (int) make(x -> x.steps(area));
    }

    int stepPipe(int area, int step) {
        return (int) make(x -> x.stepPipe(area, step));
    }

    int drop(int area, int step) {
        return (int) make(x -> x.drop(area, step));
    }

    int burst(int node, int amount, int hours) {
        return (int) make(x -> x.burst(node, amount, hours));
    }

    int repair(int burst) {
        return (int) make(x -> x.repair(burst));
    }

    int cost(int burst) {
        return (int) make(x -> x.cost(burst));
    }

    int ranked(int place) {
        return (int) make(x -> x.ranked(place));
    }

    int plan(int hours) {
        return (int) make(x -> x.plan(hours));
    }
}
