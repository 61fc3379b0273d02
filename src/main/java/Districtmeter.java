/**
 * A desk for leakage in a water net.
 *
 * A set of nodes, pipes or bursts is an int with bit n for number n. A node's way is the set of the
 * nodes from the source to it, both included; as a pipe bears the number of the node that hangs on
 * it, a way is also the set of the pipes that lead to the node.
 */
public final class Districtmeter {
    private static final int MOST_NODES = 16;
    private static final int MOST_AREAS = 8;
    private static final int MOST_BURSTS = 20;
    private static final int MOST_AMOUNT = 10000;
    private static final int MOST_PRESSURE = 100;
    private static final int MOST_HOURS_OF_BURST = 100;
    private static final int MOST_HOURS_OF_PLAN = 1000;

    private static final int SOURCE = 0;
    private static final int NOT_SET = -1;
    private static final int USUAL_PRESSURE = 50;
    private static final int PRESSURE_STEP = 10;
    private static final int[] FACTORS = {0, 120, 280, 490, 730, 1000, 1290, 1600, 1930, 2280, 2650};
    private static final int FACTOR_UNIT = 1000;

    private int nodeCount;
    private final int[] ways;
    private final int[] uses;
    private final int[] backgrounds;
    private final int[] pressures;
    private int meteredPipes;
    private int shutPipes;

    private int areaCount;
    private final int[] inlets;
    private final int[] exports;

    private int burstCount;
    private final int[] burstNodes;
    private final int[] burstAmounts;
    private final int[] burstHours;
    private int repairedBursts;

    // Rows for one ranking; they hold nothing from one call to the next.
    private final int[] rankedCosts;
    private final int[] rankedBursts;

    public Districtmeter() {
        ways = new int[MOST_NODES];
        uses = new int[MOST_NODES];
        backgrounds = new int[MOST_NODES];
        pressures = new int[MOST_NODES];
        inlets = new int[MOST_AREAS];
        exports = new int[MOST_AREAS];
        burstNodes = new int[MOST_BURSTS];
        burstAmounts = new int[MOST_BURSTS];
        burstHours = new int[MOST_BURSTS];
        rankedCosts = new int[MOST_BURSTS];
        rankedBursts = new int[MOST_BURSTS];
        nodeCount = 1;
        ways[SOURCE] = 1 << SOURCE;
    }

    // ---- the net.

    public int addNode(int on, int use) throws IllegalArgumentException, IndexOutOfBoundsException, IllegalStateException {
        needRange(use, 0, MOST_AMOUNT);
        needNode(on);
        needRoom(nodeCount, MOST_NODES);
        int node = nodeCount;
        ways[node] = ways[on] | 1 << node;
        uses[node] = use;
        pressures[node] = NOT_SET;
        nodeCount = node + 1;
        return node;
    }

    public int setBackground(int node, int amount) throws IllegalArgumentException, IndexOutOfBoundsException {
        needRange(amount, 0, MOST_AMOUNT);
        needNode(node);
        backgrounds[node] = amount;
        return leakageAt(node);
    }

    public int setPressure(int pipe, int pressure) throws IllegalArgumentException, IndexOutOfBoundsException {
        needRange(pressure, NOT_SET, MOST_PRESSURE);
        needPipe(pipe);
        pressures[pipe] = pressure;
        return pressureAt(pipe);
    }

    public boolean addMeter(int pipe) throws IndexOutOfBoundsException {
        needPipe(pipe);
        boolean hadNone = !has(meteredPipes, pipe);
        meteredPipes |= 1 << pipe;
        return hadNone;
    }

    public boolean toggleValve(int pipe) throws IndexOutOfBoundsException {
        needPipe(pipe);
        shutPipes ^= 1 << pipe;
        return !has(shutPipes, pipe);
    }

    public boolean isSupplied(int node) throws IndexOutOfBoundsException {
        needNode(node);
        return isOpenTo(node, shutPipes);
    }

    public int takes(int node) throws IndexOutOfBoundsException {
        needNode(node);
        return takenAt(node, shutPipes);
    }

    public int flow(int pipe) throws IndexOutOfBoundsException, IllegalStateException {
        needPipe(pipe);
        if (!has(meteredPipes, pipe)) {
            throw new IllegalStateException("the pipe has no meter");
        }
        return flowTo(pipe);
    }

    public int allFlow() {
        return flowTo(SOURCE);
    }

    // ---- areas.

    public int addArea(int inlet) throws IndexOutOfBoundsException, IllegalStateException {
        needNode(inlet);
        needRoom(areaCount, MOST_AREAS);
        int area = areaCount;
        inlets[area] = inlet;
        areaCount = area + 1;
        return area;
    }

    public int addExport(int area, int node) throws IndexOutOfBoundsException, IllegalStateException {
        needArea(area);
        needNode(node);
        int inlet = inlets[area];
        if (node == inlet || !has(ways[node], inlet) || has(exports[area], node)) {
            throw new IllegalStateException("the node cannot become an export of the area");
        }
        exports[area] |= 1 << node;
        return Integer.bitCount(nodesOf(area));
    }

    public int nodes(int area) throws IndexOutOfBoundsException {
        needArea(area);
        return nodesOf(area);
    }

    public int areaFlow(int area) throws IndexOutOfBoundsException, IllegalStateException {
        needArea(area);
        int inlet = inlets[area];
        int outer = outerExports(area);
        int read = (outer | 1 << inlet) & ~(1 << SOURCE);
        if ((read & ~meteredPipes) != 0) {
            throw new IllegalStateException("a pipe of the area has no meter");
        }
        int flow = flowTo(inlet);
        for (int node = 0; node < nodeCount; node++) {
            if (has(outer, node)) {
                flow -= flowTo(node);
            }
        }
        return flow;
    }

    public int areaTakes(int area) throws IndexOutOfBoundsException {
        needArea(area);
        return takenBy(nodesOf(area), shutPipes);
    }

    public int loss(int area) throws IndexOutOfBoundsException {
        needArea(area);
        int members = nodesOf(area);
        return takenBy(members, shutPipes) - usedBy(members);
    }

    // ---- step tests.

    public int steps(int area) throws IndexOutOfBoundsException {
        needArea(area);
        return Integer.bitCount(pipesToShut(area));
    }

    public int stepPipe(int area, int step) throws IndexOutOfBoundsException {
        needArea(area);
        return pipeOfStep(area, step);
    }

    public int drop(int area, int step) throws IndexOutOfBoundsException {
        needArea(area);
        int pipe = pipeOfStep(area, step);
        int before = shutPipes | pipesAbove(pipesToShut(area), pipe);
        int after = before | 1 << pipe;
        int members = nodesOf(area);
        return takenBy(members, before) - takenBy(members, after);
    }

    // ---- bursts.

    public int burst(int node, int amount, int hours) throws IllegalArgumentException, IndexOutOfBoundsException, IllegalStateException {
        needRange(amount, 1, MOST_AMOUNT);
        needRange(hours, 1, MOST_HOURS_OF_BURST);
        needNode(node);
        needRoom(burstCount, MOST_BURSTS);
        int burst = burstCount;
        burstNodes[burst] = node;
        burstAmounts[burst] = amount;
        burstHours[burst] = hours;
        burstCount = burst + 1;
        return burst;
    }

    public int repair(int burst) throws IndexOutOfBoundsException, IllegalStateException {
        needBurst(burst);
        if (has(repairedBursts, burst)) {
            throw new IllegalStateException("the burst is repaired");
        }
        int saved = costOf(burst);
        repairedBursts |= 1 << burst;
        return saved;
    }

    public int cost(int burst) throws IndexOutOfBoundsException {
        needBurst(burst);
        return costOf(burst);
    }

    public int ranked(int place) throws IndexOutOfBoundsException {
        int places = rankBursts();
        if (place < 0 || place >= places) {
            throw new IndexOutOfBoundsException("no such place");
        }
        return rankedBursts[place];
    }

    public int plan(int hours) throws IllegalArgumentException {
        needRange(hours, 0, MOST_HOURS_OF_PLAN);
        int places = rankBursts();
        int left = hours;
        int planned = 0;
        for (int place = 0; place < places; place++) {
            int burst = rankedBursts[place];
            if (burstHours[burst] <= left) {
                left -= burstHours[burst];
                planned |= 1 << burst;
            }
        }
        return planned;
    }

    // ---- what calls need.

    private static void needRange(int value, int least, int most) {
        if (value < least || value > most) {
            throw new IllegalArgumentException("out of range");
        }
    }

    private static void needRoom(int count, int most) {
        if (count >= most) {
            throw new IllegalStateException("no room for one more");
        }
    }

    private void needNode(int node) {
        if (node < 0 || node >= nodeCount) {
            throw new IndexOutOfBoundsException("no such node");
        }
    }

    private void needPipe(int pipe) {
        // The source hangs on nothing, so that there is no pipe of its number.
        if (pipe <= SOURCE || pipe >= nodeCount) {
            throw new IndexOutOfBoundsException("no such pipe");
        }
    }

    private void needArea(int area) {
        if (area < 0 || area >= areaCount) {
            throw new IndexOutOfBoundsException("no such area");
        }
    }

    private void needBurst(int burst) {
        if (burst < 0 || burst >= burstCount) {
            throw new IndexOutOfBoundsException("no such burst");
        }
    }

    // ---- sets.

    private static boolean has(int set, int number) {
        return (set & 1 << number) != 0;
    }

    private static int pipesAbove(int set, int pipe) {
        return set & -1 << (pipe + 1);
    }

    // ---- nodes.

    private boolean isOpenTo(int node, int shut) {
        return (ways[node] & shut) == 0;
    }

    private int pressureAt(int node) {
        int pressure = USUAL_PRESSURE;
        // A node has a higher number than those on its way, so that the last one set here is the last on the way.
        for (int pipe = SOURCE + 1; pipe <= node; pipe++) {
            if (has(ways[node], pipe) && pressures[pipe] != NOT_SET) {
                pressure = pressures[pipe];
            }
        }
        return pressure;
    }

    private static int factorFor(int pressure) {
        int row = pressure / PRESSURE_STEP;
        // The highest pressure has no row above it to go towards.
        if (row < 0 || row >= FACTORS.length - 1) {
            return FACTORS[FACTORS.length - 1];
        }
        int rise = FACTORS[row + 1] - FACTORS[row];
        return FACTORS[row] + rise * (pressure - row * PRESSURE_STEP) / PRESSURE_STEP;
    }

    private int leakageOf(int amount, int node) {
        return amount * factorFor(pressureAt(node)) / FACTOR_UNIT;
    }

    private int amountAt(int node) {
        int amount = backgrounds[node];
        for (int burst = 0; burst < burstCount; burst++) {
            if (burstNodes[burst] == node && !has(repairedBursts, burst)) {
                amount += burstAmounts[burst];
            }
        }
        return amount;
    }

    private int leakageAt(int node) {
        return leakageOf(amountAt(node), node);
    }

    private int takenAt(int node, int shut) {
        return isOpenTo(node, shut) ? uses[node] + leakageAt(node) : 0;
    }

    private int takenBy(int set, int shut) {
        int sum = 0;
        for (int node = 0; node < nodeCount; node++) {
            if (has(set, node)) {
                sum += takenAt(node, shut);
            }
        }
        return sum;
    }

    private int usedBy(int set) {
        int sum = 0;
        for (int node = 0; node < nodeCount; node++) {
            if (has(set, node) && isOpenTo(node, shutPipes)) {
                sum += uses[node];
            }
        }
        return sum;
    }

    private int flowTo(int top) {
        int sum = 0;
        for (int node = 0; node < nodeCount; node++) {
            if (has(ways[node], top)) {
                sum += takenAt(node, shutPipes);
            }
        }
        return sum;
    }

    // ---- nodes of areas.

    private int nodesOf(int area) {
        int set = 0;
        for (int node = 0; node < nodeCount; node++) {
            if (has(ways[node], inlets[area]) && (ways[node] & exports[area]) == 0) {
                set |= 1 << node;
            }
        }
        return set;
    }

    private int outerExports(int area) {
        int set = 0;
        for (int node = 0; node < nodeCount; node++) {
            if ((ways[node] & exports[area]) == 1 << node) {
                set |= 1 << node;
            }
        }
        return set;
    }

    private int pipesToShut(int area) {
        return nodesOf(area) & ~(1 << inlets[area]) & ~shutPipes;
    }

    private int pipeOfStep(int area, int step) {
        int pipes = pipesToShut(area);
        int passed = 0;
        for (int pipe = nodeCount - 1; pipe > SOURCE; pipe--) {
            if (has(pipes, pipe)) {
                if (passed == step) {
                    return pipe;
                }
                passed++;
            }
        }
        throw new IndexOutOfBoundsException("no such step");
    }

    // ---- costs and ranks of bursts.

    private int costOf(int burst) {
        int node = burstNodes[burst];
        if (has(repairedBursts, burst) || !isOpenTo(node, shutPipes)) {
            return 0;
        }
        // Leakage is rounded for the whole node, so that a burst alone does not tell its cost.
        int amount = amountAt(node);
        return leakageOf(amount, node) - leakageOf(amount - burstAmounts[burst], node);
    }

    /** Fills the rows of the ranking and returns how many bursts are ranked. */
    private int rankBursts() {
        int count = 0;
        for (int burst = 0; burst < burstCount; burst++) {
            if (!has(repairedBursts, burst)) {
                rankedCosts[burst] = costOf(burst);
                insertByRank(burst, count);
                count++;
            }
        }
        return count;
    }

    private void insertByRank(int burst, int count) {
        int place = count;
        while (place > 0 && isAhead(burst, rankedBursts[place - 1])) {
            rankedBursts[place] = rankedBursts[place - 1];
            place--;
        }
        rankedBursts[place] = burst;
    }

    private boolean isAhead(int burst, int other) {
        // Products instead of quotients, which would lose their fractions.
        return rankedCosts[burst] * burstHours[other] > rankedCosts[other] * burstHours[burst];
    }
}
