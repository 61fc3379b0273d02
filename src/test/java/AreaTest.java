/** Promises 11 to 16, areas: what their calls answer; AreaLimitTest has their limits. */
public final class AreaTest {
    private static final Check check = new Check("AreaTest");

    public static void main(String[] args) {
        promise11();
        promise12();
        promise13();
        promise14();
        promise15();
        promise16();
        check.end();
    }

    private static void promise11() {
        Desk x = Nets.branched();
        check.due("11: the first", 0, () -> x.addArea(2));
        check.due("11: without exports", 0b111100, () -> x.nodes(0));
        check.due("11: the same inlet again", 1, () -> x.addArea(2));
        check.due("11: the source", 2, () -> x.addArea(0));
        for (int area = 3; area <= 7; area++) {
            check.due("11: area " + area, area, () -> x.addArea(6));
        }
        check.due("11: the 8th area", 0b1000000, () -> x.nodes(7));
        check.refused("11: one more than 8", Check.STATE, x, () -> x.addArea(0));
    }

    private static void promise12() {
        Desk x = Nets.branched();
        x.addArea(1);
        x.addArea(1);
        check.due("12: a branch of two", 3, () -> x.addExport(0, 3));
        check.due("12: below an export already", 3, () -> x.addExport(0, 4));
        check.due("12: above an export already", 1, () -> x.addExport(0, 2));
        check.due("12: the other area keeps its own", 4, () -> x.addExport(1, 5));
        check.refused("12: the inlet", Check.STATE, x, () -> x.addExport(0, 1));
        check.refused("12: above the inlet", Check.STATE, x, () -> x.addExport(0, 0));
        check.refused("12: beside the inlet", Check.STATE, x, () -> x.addExport(0, 6));
        check.refused("12: an export", Check.STATE, x, () -> x.addExport(0, 3));
        check.refused("12: an export below another", Check.STATE, x, () -> x.addExport(0, 4));
    }

    private static void promise13() {
        Desk x = Nets.branched();
        x.addArea(0);
        x.addArea(2);
        check.due("13: all", 0b1111111, () -> x.nodes(0));
        check.due("13: those below the inlet", 0b111100, () -> x.nodes(1));
        x.addExport(0, 2);
        check.due("13: without those below an export", 0b1000011, () -> x.nodes(0));
        x.addExport(1, 5);
        check.due("13: an export alone", 0b11100, () -> x.nodes(1));
        check.due("13: the other keeps its own", 0b1000011, () -> x.nodes(0));
        x.toggleValve(2);
        check.due("13: whatever is shut", 0b11100, () -> x.nodes(1));
        x.addNode(4, 0);
        x.addNode(5, 0);
        check.due("13: a node added below the inlet", 0b10011100, () -> x.nodes(1));
        check.due("13: and one below an export", 0b1000011, () -> x.nodes(0));
        Desk y = Nets.line();
        y.addArea(0);
        check.due("13: the 16th node", 65535, () -> y.nodes(0));
        y.addExport(0, 15);
        check.due("13: without the 16th", 32767, () -> y.nodes(0));
    }

    private static void promise14() {
        Desk x = Nets.branched();
        x.addArea(0);
        x.addArea(2);
        check.due("14: all flow wants no meter", 126, () -> x.areaFlow(0));
        check.refused("14: the inlet has no meter", Check.STATE, x, () -> x.areaFlow(1));
        x.addMeter(2);
        check.due("14: by the inlet's meter", 60, () -> x.areaFlow(1));
        x.addExport(1, 3);
        x.addExport(0, 3);
        check.refused("14: the export has no meter", Check.STATE, x, () -> x.areaFlow(1));
        check.refused("14: not even where the inlet is the source", Check.STATE, x, () -> x.areaFlow(0));
        x.addMeter(3);
        check.due("14: less an export", 36, () -> x.areaFlow(1));
        check.due("14: the same export of another area", 102, () -> x.areaFlow(0));
        x.addExport(1, 4);
        check.due("14: an export below another counts once and wants no meter", 36, () -> x.areaFlow(1));
        x.addExport(1, 5);
        check.due("14: two beside each other", Check.STATE, () -> x.areaFlow(1));
        x.addMeter(5);
        check.due("14: less both", 4, () -> x.areaFlow(1));
        x.addExport(0, 2);
        check.due("14: an export above another takes its place", 66, () -> x.areaFlow(0));
        x.setBackground(2, 100);
        check.due("14: with leakage", 104, () -> x.areaFlow(1));
        x.toggleValve(3);
        check.due("14: a shut export", 104, () -> x.areaFlow(1));
        x.toggleValve(2);
        check.due("14: a shut inlet", 0, () -> x.areaFlow(1));
        promise14InletOfExports();
    }

    /** The inlet's own meter is wanted, too, where only the export has one. */
    private static void promise14InletOfExports() {
        Desk x = Nets.branched();
        x.addArea(2);
        x.addExport(0, 3);
        x.addMeter(3);
        check.due("14: a meter at the export alone", Check.STATE, () -> x.areaFlow(0));
        x.addMeter(2);
        check.due("14: at both", 36, () -> x.areaFlow(0));
        Desk y = Nets.line();
        y.addArea(0);
        y.addExport(0, 15);
        check.due("14: the 16th node is an export without a meter", Check.STATE, () -> y.areaFlow(0));
        y.addMeter(15);
        check.due("14: the 16th node is an export", 105, () -> y.areaFlow(0));
    }

    private static void promise15() {
        Desk x = Nets.branched();
        x.addArea(2);
        x.addArea(0);
        check.due("15: no meter is wanted", 60, () -> x.areaTakes(0));
        x.addExport(0, 3);
        check.due("15: its nodes alone", 36, () -> x.areaTakes(0));
        x.setBackground(5, 10);
        x.setPressure(2, 60);
        check.due("15: with leakage", 48, () -> x.areaTakes(0));
        x.toggleValve(5);
        check.due("15: those that are supplied", 4, () -> x.areaTakes(0));
        check.due("15: of the other area", 94, () -> x.areaTakes(1));
        x.setBackground(0, 500);
        check.due("15: the source is a node of it, too", 594, () -> x.areaTakes(1));
        check.due("15: and of its flow", 594, () -> x.areaFlow(1));
    }

    private static void promise16() {
        Desk x = Nets.branched();
        x.addArea(1);
        x.addArea(0);
        check.due("16: uses are no loss", 0, () -> x.loss(0));
        x.setBackground(2, 100);
        x.setBackground(4, 30);
        x.setBackground(6, 7);
        x.burst(4, 20, 1);
        check.due("16: leakage", 150, () -> x.loss(0));
        check.due("16: of all", 157, () -> x.loss(1));
        x.setPressure(3, 45);
        check.due("16: by the pressure", 143, () -> x.loss(0));
        x.toggleValve(4);
        check.due("16: uses that are not supplied are none of the area's", 100, () -> x.loss(0));
        x.addExport(0, 2);
        check.due("16: without those below an export", 0, () -> x.loss(0));
        x.toggleValve(1);
        check.due("16: all shut", 0, () -> x.loss(0));
        x.setBackground(0, 500);
        check.due("16: the source's leakage", 507, () -> x.loss(1));
    }
}
