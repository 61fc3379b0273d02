import java.util.ArrayList;
import java.util.List;

/**
 * The document once more, as it says it: valves are shut and bursts are repaired in earnest where the
 * document thinks of them so, and all is reckoned anew. Shares no way of reckoning with Districtmeter.
 */
final class Model {
    private static final int[] FACTORS = {0, 120, 280, 490, 730, 1000, 1290, 1600, 1930, 2280, 2650};

    private static final class Node {
        int number;
        Node on;
        int use;
        int background;
        int pressure = -1;
        boolean metered;
        boolean open = true;
        final List<Node> hanging = new ArrayList<>();
    }

    private static final class Area {
        Node inlet;
        final List<Node> exports = new ArrayList<>();
    }

    private static final class Burst {
        int number;
        Node node;
        int amount;
        int hours;
        boolean repaired;
    }

    private final List<Node> nodes = new ArrayList<>();
    private final List<Area> areas = new ArrayList<>();
    private final List<Burst> bursts = new ArrayList<>();

    Model() {
        nodes.add(new Node());
    }

    // ---- the net.

    int addNode(int on, int use) {
        range(use, 0, 10000);
        Node above = node(on);
        state(nodes.size() < 16);
        Node node = new Node();
        node.number = nodes.size();
        node.on = above;
        node.use = use;
        above.hanging.add(node);
        nodes.add(node);
        return node.number;
    }

    int setBackground(int node, int amount) {
        range(amount, 0, 10000);
        node(node).background = amount;
        return leakage(node(node));
    }

    int setPressure(int pipe, int pressure) {
        range(pressure, -1, 100);
        pipe(pipe).pressure = pressure;
        return pressure(pipe(pipe));
    }

    boolean addMeter(int pipe) {
        boolean had = pipe(pipe).metered;
        pipe(pipe).metered = true;
        return !had;
    }

    boolean toggleValve(int pipe) {
        pipe(pipe).open = !pipe(pipe).open;
        return pipe(pipe).open;
    }

    boolean isSupplied(int node) {
        return supplied(node(node));
    }

    int takes(int node) {
        return takes(node(node));
    }

    int flow(int pipe) {
        state(pipe(pipe).metered);
        return flow(pipe(pipe));
    }

    int allFlow() {
        return flow(nodes.get(0));
    }

    // ---- areas.

    int addArea(int inlet) {
        Node at = node(inlet);
        state(areas.size() < 8);
        Area area = new Area();
        area.inlet = at;
        areas.add(area);
        return areas.size() - 1;
    }

    int addExport(int area, int node) {
        Area a = area(area);
        Node n = node(node);
        state(n != a.inlet && isBelow(n, a.inlet) && !a.exports.contains(n));
        a.exports.add(n);
        return members(a).size();
    }

    int nodes(int area) {
        int set = 0;
        for (Node n : members(area(area))) {
            set += 1 << n.number;
        }
        return set;
    }

    int areaFlow(int area) {
        Area a = area(area);
        state(a.inlet.number == 0 || a.inlet.metered);
        for (Node e : outer(a)) {
            state(e.metered);
        }
        return flow(a);
    }

    int areaTakes(int area) {
        int sum = 0;
        for (Node n : members(area(area))) {
            sum += takes(n);
        }
        return sum;
    }

    int loss(int area) {
        int use = 0;
        for (Node n : members(area(area))) {
            use += supplied(n) ? n.use : 0;
        }
        return areaTakes(area) - use;
    }

    // ---- step tests.

    int steps(int area) {
        Area a = area(area);
        int count = 0;
        for (Node n : members(a)) {
            count += n != a.inlet && n.open ? 1 : 0;
        }
        return count;
    }

    int stepPipe(int area, int step) {
        return test(area(area), step)[0];
    }

    int drop(int area, int step) {
        return test(area(area), step)[1];
    }

    /** Shuts the valves in earnest, and opens them again. */
    private int[] test(Area area, int step) {
        List<Node> shut = new ArrayList<>();
        int[] told = null;
        while (told == null) {
            Node highest = null;
            for (Node n : members(area)) {
                if (n != area.inlet && n.open && (highest == null || n.number > highest.number)) {
                    highest = n;
                }
            }
            if (highest == null) {
                break;
            }
            int before = flow(area);
            highest.open = false;
            if (shut.size() == step) {
                told = new int[] {highest.number, before - flow(area)};
            }
            shut.add(highest);
        }
        for (Node n : shut) {
            n.open = true;
        }
        there(told != null);
        return told;
    }

    // ---- bursts.

    int burst(int node, int amount, int hours) {
        range(amount, 1, 10000);
        range(hours, 1, 100);
        Node at = node(node);
        state(bursts.size() < 20);
        Burst burst = new Burst();
        burst.number = bursts.size();
        burst.node = at;
        burst.amount = amount;
        burst.hours = hours;
        bursts.add(burst);
        return burst.number;
    }

    int repair(int burst) {
        Burst b = known(burst);
        state(!b.repaired);
        int before = allFlow();
        b.repaired = true;
        return before - allFlow();
    }

    int cost(int burst) {
        return cost(known(burst));
    }

    int ranked(int place) {
        List<Burst> ranks = ranks();
        there(place >= 0 && place < ranks.size());
        return ranks.get(place).number;
    }

    int plan(int hours) {
        range(hours, 0, 1000);
        int set = 0;
        int left = hours;
        for (Burst b : ranks()) {
            if (left >= b.hours) {
                left -= b.hours;
                set += 1 << b.number;
            }
        }
        return set;
    }

    private int cost(Burst b) {
        if (b.repaired) {
            return 0;
        }
        int before = allFlow();
        b.repaired = true;
        int saved = before - allFlow();
        b.repaired = false;
        return saved;
    }

    private List<Burst> ranks() {
        List<Burst> ranks = new ArrayList<>();
        for (Burst b : bursts) {
            if (!b.repaired) {
                ranks.add(b);
            }
        }
        ranks.sort((a, b) -> {
            int byQuotient = Long.compare((long) cost(b) * a.hours, (long) cost(a) * b.hours);
            return byQuotient != 0 ? byQuotient : Integer.compare(a.number, b.number);
        });
        return ranks;
    }

    // ---- terms.

    private static boolean isBelow(Node node, Node top) {
        return node == top || node.on != null && isBelow(node.on, top);
    }

    private static boolean supplied(Node node) {
        return node.on == null || node.open && supplied(node.on);
    }

    private static int pressure(Node node) {
        if (node.pressure >= 0) {
            return node.pressure;
        }
        return node.on == null ? 50 : pressure(node.on);
    }

    private static int factor(int pressure) {
        int low = pressure / 10;
        if (pressure % 10 == 0) {
            return FACTORS[low];
        }
        return FACTORS[low] + (FACTORS[low + 1] - FACTORS[low]) * (pressure - 10 * low) / 10;
    }

    private int leakage(Node node) {
        long sum = node.background;
        for (Burst b : bursts) {
            if (b.node == node && !b.repaired) {
                sum += b.amount;
            }
        }
        return (int) (sum * factor(pressure(node)) / 1000);
    }

    private int takes(Node node) {
        return supplied(node) ? node.use + leakage(node) : 0;
    }

    private int flow(Node top) {
        int sum = takes(top);
        for (Node n : top.hanging) {
            sum += flow(n);
        }
        return sum;
    }

    private static List<Node> outer(Area area) {
        List<Node> outer = new ArrayList<>();
        for (Node e : area.exports) {
            boolean isOuter = true;
            for (Node other : area.exports) {
                isOuter &= other == e || !isBelow(e, other);
            }
            if (isOuter) {
                outer.add(e);
            }
        }
        return outer;
    }

    private int flow(Area area) {
        int sum = flow(area.inlet);
        for (Node e : outer(area)) {
            sum -= flow(e);
        }
        return sum;
    }

    private List<Node> members(Area area) {
        List<Node> members = new ArrayList<>();
        for (Node n : nodes) {
            boolean isMember = isBelow(n, area.inlet);
            for (Node e : area.exports) {
                isMember &= !isBelow(n, e);
            }
            if (isMember) {
                members.add(n);
            }
        }
        return members;
    }

    // ---- what calls need.

    private Node node(int number) {
        there(number >= 0 && number < nodes.size());
        return nodes.get(number);
    }

    private Node pipe(int number) {
        there(number != 0);
        return node(number);
    }

    private Area area(int number) {
        there(number >= 0 && number < areas.size());
        return areas.get(number);
    }

    private Burst known(int number) {
        there(number >= 0 && number < bursts.size());
        return bursts.get(number);
    }

    private static void range(int value, int least, int most) {
        if (value < least || value > most) {
            throw new IllegalArgumentException();
        }
    }

    private static void there(boolean is) {
        if (!is) {
            throw new IndexOutOfBoundsException();
        }
    }

    private static void state(boolean isPossible) {
        if (!isPossible) {
            throw new IllegalStateException();
        }
    }
}
