/** The limits of bursts, promises 20 to 24: a method for each sentence that names one, inside it and beyond it. */
public final class BurstLimitTest {
    private static final Check check = new Check("BurstLimitTest");

    public static void main(String[] args) {
        burstAmount();
        burstHours();
        burstNode();
        burst20();
        burstOrder();
        repairBurst();
        repairTwice();
        repairOfNothing();
        costBurst();
        costLimits();
        costRoundedWithTheNode();
        rankedPlace();
        rankedUntilAllRepaired();
        rankedBySameQuotient();
        rankedByLeastDifference();
        planHours();
        planJustEnough();
        planPassesOver();
        planMost();
        check.end();
    }

    /** 20 bursts at the source, of the amount 10 and 100 hours each. */
    private static Desk twentyBursts() {
        Desk x = new Desk();
        for (int burst = 0; burst < 20; burst++) {
            x.burst(0, 10, 100);
        }
        return x;
    }

    // ---- promise 20.

    private static void burstAmount() {
        Desk x = new Desk();
        check.due("20: amount 1", 0, () -> x.burst(0, 1, 1));
        check.due("20: that leaks", 1, () -> x.takes(0));
        check.due("20: amount 10000", 1, () -> x.burst(0, 10000, 1));
        check.due("20: that leaks, too", 10001, () -> x.takes(0));
        check.refusedBeyond("20: amount", Check.ARGUMENT, x, 1, 10000, amount -> x.burst(0, amount, 1));
        check.due("20: numbers go on behind refused calls", 2, () -> x.burst(0, 1, 1));
    }

    private static void burstHours() {
        Desk x = new Desk();
        check.due("20: hours 1", 0, () -> x.burst(0, 1, 1));
        check.due("20: hours 100", 1, () -> x.burst(0, 1, 100));
        check.due("20: 1 hour repairs the first", 1, () -> x.plan(1));
        check.due("20: 100 the first alone", 1, () -> x.plan(100));
        check.due("20: 101 both", 3, () -> x.plan(101));
        check.refusedBeyond("20: hours", Check.ARGUMENT, x, 1, 100, hours -> x.burst(0, 1, hours));
    }

    private static void burstNode() {
        Desk x = new Desk();
        check.due("20: the source", 0, () -> x.burst(0, 1, 1));
        check.refusedBeyond("20: of one node,", Check.INDEX, x, 0, 0, node -> x.burst(node, 1, 1));
        Desk y = Nets.line();
        check.due("20: node 15 of 16", 0, () -> y.burst(15, 5, 1));
        check.due("20: leaks there", 20, () -> y.takes(15));
        check.refusedBeyond("20: of 16 nodes,", Check.INDEX, y, 0, 15, node -> y.burst(node, 1, 1));
    }

    /** Repaired ones count, too, since there have been that many. */
    private static void burst20() {
        Desk x = new Desk();
        for (int i = 0; i <= 18; i++) {
            int burst = i;
            check.due("20: burst " + burst, burst, () -> x.burst(0, 1, 1));
        }
        x.repair(18);
        check.due("20: the 20th", 19, () -> x.burst(0, 7, 1));
        check.due("20: the 20th costs", 7, () -> x.cost(19));
        check.refused("20: a 21st, one repaired", Check.STATE, x, () -> x.burst(0, 1, 1));
        for (int burst = 0; burst <= 19; burst++) {
            if (burst != 18) {
                x.repair(burst);
            }
        }
        check.refused("20: a 21st, all repaired", Check.STATE, x, () -> x.burst(0, 10000, 100));
        check.due("20: none leaks", 0, () -> x.allFlow());
    }

    private static void burstOrder() {
        Desk x = new Desk();
        check.refused("20: amount ahead of node", Check.ARGUMENT, x, () -> x.burst(1, 0, 1));
        check.refused("20: hours ahead of node", Check.ARGUMENT, x, () -> x.burst(-1, 1, 101));
        check.refused("20: both", Check.ARGUMENT, x, () -> x.burst(0, 10001, 0));
        Desk y = twentyBursts();
        check.refused("20: amount ahead of state", Check.ARGUMENT, y, () -> y.burst(0, 10001, 100));
        check.refused("20: hours ahead of state", Check.ARGUMENT, y, () -> y.burst(0, 1, 0));
        check.refused("20: amount ahead of node and state", Check.ARGUMENT, y, () -> y.burst(1, 0, 1));
        check.refused("20: hours ahead of node and state", Check.ARGUMENT, y, () -> y.burst(-1, 1, 101));
        check.refusedBeyond("20: node ahead of state,", Check.INDEX, y, 0, 0, node -> y.burst(node, 1, 1));
    }

    // ---- promises 21 and 22.

    private static void repairBurst() {
        Desk x = new Desk();
        check.refusedBeyond("21: of none,", Check.INDEX, x, 0, -1, burst -> x.repair(burst));
        x.burst(0, 3, 1);
        check.refusedBeyond("21: of one,", Check.INDEX, x, 0, 0, burst -> x.repair(burst));
        check.due("21: the only one", 3, () -> x.repair(0));
        check.refusedBeyond("21: of one that is repaired,", Check.INDEX, x, 0, 0, burst -> x.repair(burst));
        Desk y = twentyBursts();
        check.refusedBeyond("21: of 20,", Check.INDEX, y, 0, 19, burst -> y.repair(burst));
        check.due("21: the first of 20", 10, () -> y.repair(0));
        check.due("21: the last of 20", 10, () -> y.repair(19));
    }

    private static void repairTwice() {
        Desk x = twentyBursts();
        for (int i = 0; i <= 19; i++) {
            int burst = i;
            check.due("21: burst " + burst, 10, () -> x.repair(burst));
            check.refused("21: burst " + burst + " again", Check.STATE, x, () -> x.repair(burst));
            check.due("22: burst " + burst + " costs nothing then", 0, () -> x.cost(burst));
        }
        check.due("21: all repaired", 0, () -> x.allFlow());
    }

    /** A repair that saves nothing is one all the same. */
    private static void repairOfNothing() {
        Desk x = new Desk();
        x.addNode(0, 0);
        x.burst(1, 10000, 1);
        x.burst(1, 10000, 1);
        x.setPressure(1, 0);
        check.due("21: at pressure 0", 0, () -> x.repair(0));
        check.refused("21: that again", Check.STATE, x, () -> x.repair(0));
        x.setPressure(1, 100);
        x.toggleValve(1);
        check.due("21: not supplied", 0, () -> x.repair(1));
        check.refused("21: that again, not supplied", Check.STATE, x, () -> x.repair(1));
        x.toggleValve(1);
        check.refused("21: that again, supplied", Check.STATE, x, () -> x.repair(1));
        check.due("21: nothing leaks then", 0, () -> x.allFlow());
    }

    private static void costBurst() {
        Desk x = new Desk();
        check.refusedBeyond("22: of none,", Check.INDEX, x, 0, -1, burst -> x.cost(burst));
        x.burst(0, 3, 1);
        check.due("22: the only one", 3, () -> x.cost(0));
        check.refusedBeyond("22: of one,", Check.INDEX, x, 0, 0, burst -> x.cost(burst));
        Desk y = twentyBursts();
        check.due("22: the first of 20", 10, () -> y.cost(0));
        check.due("22: the last of 20", 10, () -> y.cost(19));
        check.refusedBeyond("22: of 20,", Check.INDEX, y, 0, 19, burst -> y.cost(burst));
    }

    private static void costLimits() {
        Desk x = new Desk();
        x.addNode(0, 10000);
        x.setBackground(1, 10000);
        for (int burst = 0; burst < 20; burst++) {
            x.burst(1, 10000, 1);
        }
        x.setPressure(1, 100);
        check.due("22: the most", 26500, () -> x.cost(19));
        x.setPressure(1, 0);
        check.due("22: at pressure 0", 0, () -> x.cost(19));
        x.setPressure(1, 1);
        check.due("22: at pressure 1", 120, () -> x.cost(19));
        x.toggleValve(1);
        check.due("22: not supplied", 0, () -> x.cost(19));
        x.toggleValve(1);
        x.repair(19);
        check.due("22: repaired", 0, () -> x.cost(19));
        check.due("22: not repaired", 120, () -> x.cost(18));
    }

    private static void costRoundedWithTheNode() {
        Desk x = new Desk();
        x.addNode(0, 0);
        x.burst(1, 1, 1);
        x.setPressure(1, 49);
        check.due("22: 973 / 1000 less nothing", 0, () -> x.cost(0));
        x.setBackground(1, 1);
        check.due("22: 1946 / 1000 less 973 / 1000", 1, () -> x.cost(0));
        x.setPressure(1, 51);
        check.due("22: 2058 / 1000 less 1029 / 1000", 1, () -> x.cost(0));
        x.setPressure(1, 46);
        x.setBackground(1, 5);
        check.due("22: 5352 / 1000 less 4460 / 1000", 1, () -> x.cost(0));
        x.setBackground(1, 9);
        check.due("22: 8920 / 1000 less 8028 / 1000", 0, () -> x.cost(0));
        x.repair(0);
        check.due("22: repaired", 0, () -> x.cost(0));
    }

    // ---- promise 23.

    private static void rankedPlace() {
        Desk x = new Desk();
        check.refusedBeyond("23: of none,", Check.INDEX, x, 0, -1, place -> x.ranked(place));
        x.burst(0, 1, 1);
        check.due("23: the only place", 0, () -> x.ranked(0));
        check.refusedBeyond("23: of one,", Check.INDEX, x, 0, 0, place -> x.ranked(place));
        Desk y = twentyBursts();
        check.due("23: the first place of 20", 0, () -> y.ranked(0));
        check.due("23: the last place of 20", 19, () -> y.ranked(19));
        check.refusedBeyond("23: of 20,", Check.INDEX, y, 0, 19, place -> y.ranked(place));
    }

    private static void rankedUntilAllRepaired() {
        Desk x = twentyBursts();
        for (int burst = 0; burst <= 18; burst++) {
            int last = 18 - burst;
            x.repair(burst);
            check.due("23: the last of " + (last + 1), 19, () -> x.ranked(last));
            check.refused("23: one more than " + (last + 1), Check.INDEX, x, () -> x.ranked(last + 1));
        }
        x.repair(19);
        check.refusedBeyond("23: of none that is not repaired,", Check.INDEX, x, 0, -1, place -> x.ranked(place));
    }

    private static void rankedBySameQuotient() {
        Desk x = new Desk();
        x.addNode(0, 0);
        x.burst(0, 300, 3);
        x.burst(0, 100, 1);
        x.burst(0, 10000, 100);
        x.burst(1, 100, 1);
        for (int i = 0; i <= 3; i++) {
            int place = i;
            check.due("23: the same quotient, place " + place, place, () -> x.ranked(place));
        }
        x.toggleValve(1);
        x.burst(1, 10000, 1);
        check.due("23: no cost behind some", 3, () -> x.ranked(3));
        check.due("23: no cost, whatever the hours", 4, () -> x.ranked(4));
        x.repair(0);
        check.due("23: the lowest number that is left", 1, () -> x.ranked(0));
    }

    /** Quotients that differ by less than one, and by as little as they can. */
    private static void rankedByLeastDifference() {
        Desk x = new Desk();
        x.burst(0, 1, 100);
        x.burst(0, 1, 99);
        x.burst(0, 9999, 100);
        x.burst(0, 9900, 99);
        x.burst(0, 9901, 99);
        check.due("23: 9901 / 99", 4, () -> x.ranked(0));
        check.due("23: 9900 / 99", 3, () -> x.ranked(1));
        check.due("23: 9999 / 100", 2, () -> x.ranked(2));
        check.due("23: 1 / 99", 1, () -> x.ranked(3));
        check.due("23: 1 / 100", 0, () -> x.ranked(4));
    }

    // ---- promise 24.

    private static void planHours() {
        Desk x = new Desk();
        check.due("24: 0 hours, no burst", 0, () -> x.plan(0));
        check.due("24: 1000 hours, no burst", 0, () -> x.plan(1000));
        check.refusedBeyond("24: without a burst, hours", Check.ARGUMENT, x, 0, 1000, hours -> x.plan(hours));
        x.burst(0, 1, 1);
        check.due("24: 0 hours", 0, () -> x.plan(0));
        check.due("24: 1 hour", 1, () -> x.plan(1));
        check.due("24: 1000 hours", 1, () -> x.plan(1000));
        check.refusedBeyond("24: with a burst, hours", Check.ARGUMENT, x, 0, 1000, hours -> x.plan(hours));
        x.repair(0);
        check.due("24: all repaired", 0, () -> x.plan(1000));
    }

    private static void planJustEnough() {
        Desk x = new Desk();
        x.burst(0, 10, 100);
        x.burst(0, 5, 99);
        check.due("24: one short of the less", 0b00, () -> x.plan(98));
        check.due("24: enough for the less", 0b10, () -> x.plan(99));
        check.due("24: enough for the first", 0b01, () -> x.plan(100));
        check.due("24: one short of both", 0b01, () -> x.plan(198));
        check.due("24: enough for both", 0b11, () -> x.plan(199));
    }

    private static void planPassesOver() {
        Desk x = new Desk();
        x.addNode(0, 0);
        x.burst(1, 10000, 100);
        x.burst(0, 20, 10);
        x.burst(0, 1, 10);
        x.burst(0, 1, 1);
        check.due("24: the first is too long", 0b1010, () -> x.plan(19));
        check.due("24: a later one fits in what is left", 0b1110, () -> x.plan(99));
        check.due("24: the first leaves nothing", 0b0001, () -> x.plan(100));
        check.due("24: the first leaves one hour", 0b1001, () -> x.plan(101));
        x.toggleValve(1);
        check.due("24: one without cost comes last", 0b1110, () -> x.plan(120));
        check.due("24: and is repaired, too, if hours are left", 0b1111, () -> x.plan(121));
        x.repair(1);
        check.due("24: a repaired one wants no hours", 0b1101, () -> x.plan(111));
    }

    private static void planMost() {
        Desk x = twentyBursts();
        check.due("24: 1000 hours for ten", 0b1111111111, () -> x.plan(1000));
        check.due("24: 999 for nine", 0b111111111, () -> x.plan(999));
        Desk y = new Desk();
        for (int burst = 0; burst < 20; burst++) {
            y.burst(0, 10, 50);
        }
        check.due("24: 1000 hours for all twenty", (1 << 20) - 1, () -> y.plan(1000));
        check.due("24: 999 for all but the last", (1 << 19) - 1, () -> y.plan(999));
        check.due("24: only thought", 200, () -> y.allFlow());
    }
}
