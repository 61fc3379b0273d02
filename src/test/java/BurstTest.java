/** Promises 20 to 24, bursts: what their calls answer; BurstLimitTest has their limits. */
public final class BurstTest {
    private static final Check check = new Check("BurstTest");

    public static void main(String[] args) {
        promise20();
        promise21();
        promise22();
        promise23();
        promise24();
        promise24Edges();
        check.end();
    }

    private static void promise20() {
        Desk x = new Desk();
        x.addNode(0, 0);
        check.due("20: least amount and hours", 0, () -> x.burst(1, 1, 1));
        check.due("20: most amount and hours", 1, () -> x.burst(1, 10000, 100));
        check.due("20: both leak", 10001, () -> x.takes(1));
        check.due("20: at the source", 2, () -> x.burst(0, 5, 50));
        check.due("20: that leaks, too", 5, () -> x.takes(0));
        x.repair(0);
        for (int burst = 3; burst <= 19; burst++) {
            check.due("20: burst " + burst, burst, () -> x.burst(1, 1, 1));
        }
        check.due("20: the 20th costs", 1, () -> x.cost(19));
        check.refused("20: one more than 20, though one is repaired", Check.STATE, x, () -> x.burst(1, 1, 1));
    }

    private static void promise21() {
        Desk x = new Desk();
        x.addNode(0, 3);
        x.setBackground(1, 7);
        x.burst(1, 10, 1);
        x.burst(1, 20, 2);
        x.burst(0, 40, 2);
        x.setPressure(1, 45);
        check.due("21: all flow ahead of it", 75, () -> x.allFlow());
        check.due("21: by how much it becomes less", 9, () -> x.repair(0));
        check.due("21: all flow then", 66, () -> x.allFlow());
        check.refused("21: again", Check.STATE, x, () -> x.repair(0));
        x.toggleValve(1);
        check.due("21: where nothing is supplied", 0, () -> x.repair(1));
        check.refused("21: that again", Check.STATE, x, () -> x.repair(1));
        x.toggleValve(1);
        check.due("21: it is repaired all the same", 49, () -> x.allFlow());
        check.due("21: at the source", 40, () -> x.repair(2));
    }

    private static void promise22() {
        Desk x = new Desk();
        x.addNode(0, 0);
        x.addNode(0, 0);
        x.burst(1, 1, 1);
        x.burst(1, 1, 1);
        x.burst(2, 10000, 1);
        x.setPressure(1, 40);
        x.setPressure(2, 100);
        check.due("22: one of two, each rounded down with the whole", 1, () -> x.cost(0));
        check.due("22: the other one", 1, () -> x.cost(1));
        check.due("22: the most", 26500, () -> x.cost(2));
        x.repair(0);
        check.due("22: a repaired one", 0, () -> x.cost(0));
        check.due("22: the other one alone", 0, () -> x.cost(1));
        x.setBackground(1, 1);
        check.due("22: with the background", 1, () -> x.cost(1));
        x.toggleValve(1);
        check.due("22: where nothing is supplied", 0, () -> x.cost(1));
        x.toggleValve(1);
        check.due("22: supplied again", 1, () -> x.cost(1));
    }

    private static void promise23() {
        Desk x = new Desk();
        x.addNode(0, 0);
        x.addNode(0, 0);
        check.due("23: no burst", Check.INDEX, () -> x.ranked(0));
        x.burst(1, 7, 4);
        x.burst(1, 5, 3);
        x.burst(2, 10, 6);
        x.burst(2, 15, 8);
        x.burst(2, 1, 100);
        check.due("23: 15 / 8", 3, () -> x.ranked(0));
        check.due("23: 7 / 4", 0, () -> x.ranked(1));
        check.due("23: 5 / 3", 1, () -> x.ranked(2));
        check.due("23: 10 / 6 is the same", 2, () -> x.ranked(3));
        check.due("23: 1 / 100", 4, () -> x.ranked(4));
        x.setPressure(2, 80);
        check.due("23: by the pressure as it is", 3, () -> x.ranked(0));
        check.due("23: by the pressure as it is", 2, () -> x.ranked(1));
        check.due("23: by the pressure as it is", 0, () -> x.ranked(2));
        x.toggleValve(2);
        check.due("23: by the valves as they are", 0, () -> x.ranked(0));
        check.due("23: by the valves as they are", 1, () -> x.ranked(1));
        check.due("23: without cost by number", 2, () -> x.ranked(2));
        check.due("23: without cost by number", 4, () -> x.ranked(4));
        x.repair(2);
        check.due("23: a repaired one has no rank", 3, () -> x.ranked(2));
        promise23Twenty();
    }

    private static void promise23Twenty() {
        Desk x = new Desk();
        for (int i = 0; i < 20; i++) {
            x.burst(0, 1 + i, 1);
        }
        for (int i = 0; i < 20; i++) {
            int place = i;
            check.due("23: place " + i + " of 20", 19 - i, () -> x.ranked(place));
        }
        check.due("23: place 20 of 20", Check.INDEX, () -> x.ranked(20));
        Desk y = new Desk();
        y.addNode(0, 0);
        y.setPressure(1, 100);
        y.burst(1, 9999, 99);
        y.burst(1, 10000, 99);
        y.burst(1, 10000, 100);
        check.due("23: the greatest products", 1, () -> y.ranked(0));
        check.due("23: the greatest products", 0, () -> y.ranked(1));
        check.due("23: the greatest products", 2, () -> y.ranked(2));
    }

    private static void promise24() {
        Desk x = new Desk();
        check.due("24: no burst", 0, () -> x.plan(1000));
        x.addNode(0, 0);
        x.burst(0, 10, 10);
        x.burst(1, 90, 9);
        x.burst(0, 16, 4);
        x.burst(0, 6, 2);
        check.due("24: 0 hours", 0, () -> x.plan(0));
        check.due("24: too few for any", 0, () -> x.plan(1));
        check.due("24: for the least alone", 0b1000, () -> x.plan(2));
        check.due("24: just enough", 0b0100, () -> x.plan(4));
        check.due("24: the first goes first", 0b0010, () -> x.plan(9));
        check.due("24: one too long is passed over", 0b1010, () -> x.plan(12));
        check.due("24: three", 0b1110, () -> x.plan(15));
        check.due("24: one short of all", 0b1110, () -> x.plan(24));
        check.due("24: all", 0b1111, () -> x.plan(25));
        check.due("24: 1000 hours", 0b1111, () -> x.plan(1000));
        check.due("24: only thought", 122, () -> x.allFlow());
        x.toggleValve(1);
        check.due("24: by the ranks as they are now", 0b1101, () -> x.plan(16));
        x.repair(2);
        check.due("24: without a repaired one", 0b1001, () -> x.plan(16));
    }

    private static void promise24Edges() {
        Desk x = new Desk();
        for (int i = 0; i < 20; i++) {
            x.burst(0, 10, 100);
        }
        check.due("24: ten of twenty", 0b1111111111, () -> x.plan(1000));
        check.due("24: nine of twenty", 0b111111111, () -> x.plan(999));
        Desk y = new Desk();
        for (int i = 0; i < 20; i++) {
            y.burst(0, 1 + i, 50);
        }
        check.due("24: twenty", (1 << 20) - 1, () -> y.plan(1000));
        check.due("24: the 20th alone", 1 << 19, () -> y.plan(50));
        promise24RanksStay();
    }

    /** Without burst 0, burst 1 would cost nothing, since its node's leakage is rounded down. */
    private static void promise24RanksStay() {
        Desk x = new Desk();
        x.addNode(0, 0);
        x.setPressure(1, 30);
        x.burst(1, 4, 1);
        x.burst(1, 2, 1);
        x.burst(0, 1, 2);
        check.due("24: cost of burst 0", 2, () -> x.cost(0));
        check.due("24: cost of burst 1", 1, () -> x.cost(1));
        check.due("24: ranks as they are now", 0b011, () -> x.plan(3));
        x.repair(0);
        check.due("24: ranks behind the repair", 0b100, () -> x.plan(2));
    }
}
